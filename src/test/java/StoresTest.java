/** Promises 8 to 13: the calls about stores and rules. */
public final class StoresTest {
    private static final Class<?> BAD_INDEX = IndexOutOfBoundsException.class;
    private static final Class<?> BAD_ARGUMENT = IllegalArgumentException.class;
    private static final Class<?> BAD_STATE = IllegalStateException.class;

    public static void main(String[] args) {
        setFever();
        setDues();
        buyCoals();
        buyWool();
        sell();
        pot();
        potWithFewCoals();
        count();
        countOfTheSickAndDead();
        Check.end();
    }

    private static void setFever() {
        CombersSociety society = new CombersSociety();
        int[] wrongWeeks = {-1, 8, Integer.MIN_VALUE, Integer.MAX_VALUE};
        for (int week : wrongWeeks) {
            Check.refuses(society, "setFever(" + week + ", 0)", BAD_INDEX, () -> society.setFever(week, 0));
            Check.refuses(society, "setFever(" + week + ", 3)", BAD_INDEX, () -> society.setFever(week, 3));
        }
        int[] wrongPots = {-2, 3, Integer.MIN_VALUE, Integer.MAX_VALUE};
        for (int pot : wrongPots) {
            Check.refuses(society, "setFever(0, " + pot + ")", BAD_ARGUMENT, () -> society.setFever(0, pot));
        }
        for (int week = 0; week < 8; week++) {
            Check.same("the first fever of a week", -1, society.setFever(week, week % 3));
        }
        for (int week = 0; week < 8; week++) {
            Check.same("the next fever of a week", week % 3, society.setFever(week, -1));
        }
        Check.same("taken out", -1, society.setFever(7, -1));
    }

    private static void setDues() {
        CombersSociety society = new CombersSociety();
        int[] wrong = {-1, 4, Integer.MIN_VALUE, Integer.MAX_VALUE};
        for (int dues : wrong) {
            Check.refuses(society, "setDues(" + dues + ")", BAD_ARGUMENT, () -> society.setDues(dues));
        }
        society.join(1, 10);
        Check.same("setDues(3)", 1, society.setDues(3));
        Check.same("the box gets 3", 3, society.pass(1));
        Check.same("setDues(0)", 3, society.setDues(0));
        Check.same("the box gets 0", 0, society.pass(1));
        Check.same("setDues(2)", 0, society.setDues(2));
    }

    private static void buyCoals() {
        CombersSociety society = new CombersSociety();
        int[] wrongWhats = {-1, 2, Integer.MIN_VALUE, Integer.MAX_VALUE};
        for (int what : wrongWhats) {
            Check.refuses(society, "buy(" + what + ", 1)", BAD_INDEX, () -> society.buy(what, 1));
            Check.refuses(society, "buy(" + what + ", 0)", BAD_INDEX, () -> society.buy(what, 0));
        }
        int[] wrongMany = {-1, 0, 201, Integer.MIN_VALUE, Integer.MAX_VALUE};
        for (int many : wrongMany) {
            Check.refuses(society, "buy(0, " + many + ")", BAD_ARGUMENT, () -> society.buy(0, many));
            Check.refuses(society, "buy(1, " + many + ")", BAD_ARGUMENT, () -> society.buy(1, many));
        }
        Check.refuses(society, "buy(0, 61)", BAD_STATE, () -> society.buy(0, 61));
        Check.refuses(society, "buy(0, 200)", BAD_STATE, () -> society.buy(0, 200));
        Check.same("buy(0, 1)", 31, society.buy(0, 1));
        Check.same("a coin for it", 59, society.count(5));
        Check.same("buy(0, 59)", 90, society.buy(0, 59));
        Check.same("the box is empty", 0, society.count(5));
        Check.refuses(society, "buy(0, 1)", BAD_STATE, () -> society.buy(0, 1));
        Check.refuses(society, "buy(1, 1)", BAD_STATE, () -> society.buy(1, 1));
    }

    private static void buyWool() {
        CombersSociety society = new CombersSociety();
        Check.refuses(society, "buy(1, 181)", BAD_STATE, () -> society.buy(1, 181));
        Check.same("buy(1, 1)", 201, society.buy(1, 1));
        Check.same("a coin for 1 pound", 59, society.count(5));
        Check.same("buy(1, 2)", 203, society.buy(1, 2));
        Check.same("a coin for 2 pounds", 58, society.count(5));
        Check.same("buy(1, 3)", 206, society.buy(1, 3));
        Check.same("a coin for 3 pounds", 57, society.count(5));
        Check.same("buy(1, 4)", 210, society.buy(1, 4));
        Check.same("2 coins for 4 pounds", 55, society.count(5));
        Check.same("buy(1, 165)", 375, society.buy(1, 165));
        Check.same("the box is empty", 0, society.count(5));
        Check.same("the coals stay", 30, society.count(6));
    }

    private static void sell() {
        CombersSociety society = new CombersSociety();
        Check.refuses(society, "sell(1) without tops", BAD_STATE, () -> society.sell(1));
        society.join(8, 10);
        society.place(0, 0);
        society.pass(2);
        Check.same("tops", 25, society.count(8));
        int box = society.count(5);
        int[] wrong = {-1, 0, 501, Integer.MIN_VALUE, Integer.MAX_VALUE};
        for (int pounds : wrong) {
            Check.refuses(society, "sell(" + pounds + ")", BAD_ARGUMENT, () -> society.sell(pounds));
        }
        Check.refuses(society, "sell(26)", BAD_STATE, () -> society.sell(26));
        Check.refuses(society, "sell(500)", BAD_STATE, () -> society.sell(500));
        Check.same("sell(1)", box, society.sell(1));
        Check.same("sell(3)", box + 1, society.sell(3));
        Check.same("tops", 21, society.count(8));
        Check.same("sell(21)", box + 11, society.sell(21));
        Check.same("tops", 0, society.count(8));
        Check.same("wool", 175, society.count(7));
    }

    private static void pot() {
        CombersSociety society = new CombersSociety();
        int[] wrongPots = {-1, 3, Integer.MIN_VALUE, Integer.MAX_VALUE};
        for (int pot : wrongPots) {
            Check.refuses(society, "pot(" + pot + ", 0)", BAD_INDEX, () -> society.pot(pot, 0));
        }
        int[] wrongWhats = {-1, 4, Integer.MIN_VALUE, Integer.MAX_VALUE};
        for (int what : wrongWhats) {
            Check.refuses(society, "pot(0, " + what + ")", BAD_INDEX, () -> society.pot(0, what));
        }
        society.join(1, 9);
        society.join(2, 9);
        society.join(9, 9);
        society.join(9, 9);
        society.place(0, 1);
        Check.same("one combs", 4, society.pot(1, 3));
        society.place(1, 1);
        Check.same("two comb", 9, society.pot(1, 3));
        society.place(2, 1);
        Check.same("three comb, less 2 each", 2 + 3 + 10, society.pot(1, 3));
        society.place(3, 1);
        Check.same("four comb, less 4 each, at least 0", 0 + 1 + 8 + 8, society.pot(1, 3));
        Check.same("heat", 0, society.pot(1, 0));
        Check.same("members", 4, society.pot(1, 1));
        Check.same("who comb", 4, society.pot(1, 2));
        Check.same("nothing is burnt by asking", 30, society.count(6));
        society.setFever(0, 1);
        society.pass(1);
        Check.same("heat", 3, society.pot(1, 0));
        Check.same("sick members", 4, society.pot(1, 1));
        Check.same("none of them combs", 0, society.pot(1, 2));
        Check.same("nothing is combed", 0, society.pot(1, 3));
        society.join(5, 9);
        society.place(4, 2);
        Check.same("another pot", 8, society.pot(2, 3));
        Check.same("an empty pot", 0, society.pot(0, 3));
    }

    /** With 1 coal left the pot 0 is heated, and the others behind it are not. */
    private static void potWithFewCoals() {
        CombersSociety society = new CombersSociety();
        society.join(5, 9);
        society.join(5, 9);
        society.place(0, 2);
        society.pass(29);
        Check.same("one coal", 1, society.count(6));
        Check.same("no wool", 0, society.count(7));
        Check.same("heat", 9, society.pot(2, 0));
        Check.same("with that coal, wool or not", 14, society.pot(2, 3));
        society.place(1, 0);
        Check.same("the pot 0 takes the coal", 8, society.pot(0, 3));
        Check.same("the pot 2 gets none", 12, society.pot(2, 3));
        society.pass(1);
        Check.same("heat of the pot 0", 3, society.pot(0, 0));
        Check.same("heat of the pot 2", 7, society.pot(2, 0));
        Check.same("no coal", 0, society.count(6));
        Check.same("without coals", 6, society.pot(0, 3));
        Check.same("without coals", 10, society.pot(2, 3));
    }

    private static void count() {
        CombersSociety society = new CombersSociety();
        int[] wrong = {-1, 13, Integer.MIN_VALUE, Integer.MAX_VALUE};
        for (int what : wrong) {
            Check.refuses(society, "count(" + what + ")", BAD_INDEX, () -> society.count(what));
        }
        society.join(7, 10);
        society.join(6, 10);
        society.place(0, 0);
        society.give(1, 0, 10);
        society.pass(4);
        // 10, 13, 16, 16 pounds are combed: 5, 6, 8, 8 coins; dues 4; 6 marks are drunk and paid.
        int[] due = {4, 2, 2, 0, 0, 60 + 4 + 6, 26, 145, 55, 20 + 27 - 4 - 6, 1, 0, 0};
        for (int what = 0; what < due.length; what++) {
            Check.same("count(" + what + ")", due[what], society.count(what));
        }
    }

    private static void countOfTheSickAndDead() {
        CombersSociety society = new CombersSociety();
        society.join(1, 1);
        society.join(1, 9);
        society.join(1, 9);
        society.place(0, 0);
        society.place(1, 0);
        society.setFever(0, 0);
        society.pass(1);
        // 4 pounds each: 2 coins each; sick pay 5; dues 1; funeral 12, then 12 and 1 and 1 come in.
        int[] due = {1, 3, 1, 1, 1, 60 - 5 + 1 - 12 + 14, 29, 192, 8, 16 + 8, 0, 5, 12};
        for (int what = 0; what < due.length; what++) {
            Check.same("count(" + what + ")", due[what], society.count(what));
        }
    }
}
