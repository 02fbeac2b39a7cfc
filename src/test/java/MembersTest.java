/** Promises 1 to 7: a new object, and the calls about members. */
public final class MembersTest {
    private static final Class<?> BAD_INDEX = IndexOutOfBoundsException.class;
    private static final Class<?> BAD_ARGUMENT = IllegalArgumentException.class;
    private static final Class<?> BAD_STATE = IllegalStateException.class;

    public static void main(String[] args) {
        newObject();
        join();
        place();
        placeOfSickAndDead();
        give();
        giveAndDeath();
        settle();
        told();
        toldOfSickness();
        toldOfOneDeadInDebt();
        owes();
        Check.end();
    }

    private static void newObject() {
        CombersSociety society = new CombersSociety();
        int[] counts = {0, 0, 0, 0, 0, 60, 30, 200, 0, 0, 0, 0, 0};
        for (int what = 0; what < counts.length; what++) {
            Check.same("count(" + what + ") of a new one", counts[what], society.count(what));
        }
        for (int pot = 0; pot < 3; pot++) {
            for (int what = 0; what < 4; what++) {
                Check.same("pot(" + pot + ", " + what + ") of a new one", 0, society.pot(pot, what));
            }
        }
        for (int week = 0; week < 8; week++) {
            Check.same("setFever of a new one", -1, society.setFever(week, -1));
        }
        Check.same("setDues of a new one", 1, society.setDues(1));
        CombersSociety other = new CombersSociety();
        society.join(5, 5);
        Check.same("objects are apart", 0, other.count(1));
    }

    private static void join() {
        CombersSociety society = new CombersSociety();
        int[] wrongSkills = {0, 10, -1, Integer.MIN_VALUE, Integer.MAX_VALUE};
        for (int skill : wrongSkills) {
            Check.refuses(society, "join(" + skill + ", 5)", BAD_ARGUMENT, () -> society.join(skill, 5));
        }
        int[] wrongStrengths = {0, 21, -1, Integer.MIN_VALUE, Integer.MAX_VALUE};
        for (int strength : wrongStrengths) {
            Check.refuses(society, "join(5, " + strength + ")", BAD_ARGUMENT, () -> society.join(5, strength));
        }
        for (int i = 0; i < 12; i++) {
            Check.same("join", i, i % 2 == 0 ? society.join(1, 20) : society.join(9, 1));
        }
        Check.same("joined", 12, society.count(1));
        Check.same("well", 12, society.count(2));
        Check.same("coins in purses", 120, society.count(9));
        Check.refuses(society, "a 13th join", BAD_STATE, () -> society.join(5, 5));
        Check.refuses(society, "a wrong 13th join", BAD_ARGUMENT, () -> society.join(10, 5));
    }

    private static void place() {
        CombersSociety society = new CombersSociety();
        for (int i = 0; i < 6; i++) {
            society.join(5, 10);
        }
        Check.refuses(society, "place(-1, 0)", BAD_INDEX, () -> society.place(-1, 0));
        Check.refuses(society, "place(6, 0)", BAD_INDEX, () -> society.place(6, 0));
        Check.refuses(society, "place(12, 0)", BAD_INDEX, () -> society.place(12, 0));
        Check.refuses(society, "place(0, -2)", BAD_INDEX, () -> society.place(0, -2));
        Check.refuses(society, "place(0, 3)", BAD_INDEX, () -> society.place(0, 3));
        for (int i = 0; i < 4; i++) {
            Check.same("place at 2", -1, society.place(i, 2));
        }
        Check.refuses(society, "a fifth at the pot", BAD_STATE, () -> society.place(4, 2));
        Check.same("the fourth stays", 2, society.place(3, 2));
        Check.same("away from it", 2, society.place(3, -1));
        Check.same("there is room then", -1, society.place(4, 2));
        for (int i = 0; i < 6; i++) {
            int before = i == 3 || i == 5 ? -1 : 2;
            Check.same("place at none has no limit", before, society.place(i, -1));
        }
        Check.same("between pots", -1, society.place(0, 0));
        Check.same("between pots", 0, society.place(0, 1));
        Check.same("told of it", 1, society.told(0, 5));
    }

    private static void placeOfSickAndDead() {
        CombersSociety society = new CombersSociety();
        society.join(5, 1);
        for (int i = 1; i < 6; i++) {
            society.join(5, 10);
        }
        for (int i = 0; i < 4; i++) {
            society.place(i, 0);
        }
        society.setFever(0, 0);
        society.pass(1);
        Check.same("the weak one is dead", 2, society.told(0, 6));
        Check.refuses(society, "place of a dead one", BAD_STATE, () -> society.place(0, 1));
        Check.refuses(society, "place of a dead one at none", BAD_STATE, () -> society.place(0, -1));
        Check.refuses(society, "place of a dead one at pot 3", BAD_INDEX, () -> society.place(0, 3));
        Check.same("the dead one leaves room", -1, society.place(4, 0));
        Check.refuses(society, "sick ones take room", BAD_STATE, () -> society.place(5, 0));
        Check.same("a sick one moves", 0, society.place(1, 2));
        Check.same("and is sick still", 1, society.told(1, 6));
    }

    private static void give() {
        CombersSociety society = new CombersSociety();
        society.join(5, 10);
        society.join(6, 10);
        Check.refuses(society, "give(-1, 0, 1)", BAD_INDEX, () -> society.give(-1, 0, 1));
        Check.refuses(society, "give(2, 0, 1)", BAD_INDEX, () -> society.give(2, 0, 1));
        Check.refuses(society, "give(0, -1, 1)", BAD_INDEX, () -> society.give(0, -1, 1));
        Check.refuses(society, "give(0, 2, 1)", BAD_INDEX, () -> society.give(0, 2, 1));
        Check.refuses(society, "give(0, 2, 0)", BAD_INDEX, () -> society.give(0, 2, 0));
        Check.refuses(society, "give(0, 1, 0)", BAD_ARGUMENT, () -> society.give(0, 1, 0));
        Check.refuses(society, "give(0, 1, 100)", BAD_ARGUMENT, () -> society.give(0, 1, 100));
        Check.refuses(society, "give(0, 0, 100)", BAD_ARGUMENT, () -> society.give(0, 0, 100));
        Check.refuses(society, "give(0, 0, 1)", BAD_STATE, () -> society.give(0, 0, 1));
        Check.refuses(society, "give(0, 1, 11)", BAD_STATE, () -> society.give(0, 1, 11));
        Check.refuses(society, "give(0, 1, 99)", BAD_STATE, () -> society.give(0, 1, 99));
        Check.same("give(0, 1, 4)", 6, society.give(0, 1, 4));
        Check.same("the purse of who got", 14, society.told(1, 2));
        Check.same("give(0, 1, 6)", 0, society.give(0, 1, 6));
        Check.same("give(1, 0, 20)", 0, society.give(1, 0, 20));
        Check.same("the purse of who got", 20, society.told(0, 2));
        for (int i = 2; i < 12; i++) {
            society.join(5, 10);
            society.give(i, 0, 10);
        }
        Check.same("give(0, 1, 99)", 21, society.give(0, 1, 99));
    }

    private static void giveAndDeath() {
        CombersSociety society = new CombersSociety();
        society.join(5, 1);
        society.join(5, 10);
        society.place(0, 0);
        society.setFever(0, 0);
        society.pass(1);
        Check.refuses(society, "give to a dead one", BAD_STATE, () -> society.give(1, 0, 1));
        Check.refuses(society, "give of a dead one", BAD_STATE, () -> society.give(0, 1, 1));
        Check.refuses(society, "settle of a dead one", BAD_STATE, () -> society.settle(0));
    }

    /** 0 has 3 marks and no coin behind three club nights with an empty purse. */
    private static CombersSociety withMarks() {
        CombersSociety society = new CombersSociety();
        society.join(1, 10);
        society.join(1, 10);
        society.setDues(0);
        society.give(0, 1, 10);
        society.pass(12);
        return society;
    }

    private static void settle() {
        CombersSociety society = withMarks();
        Check.refuses(society, "settle(-1)", BAD_INDEX, () -> society.settle(-1));
        Check.refuses(society, "settle(2)", BAD_INDEX, () -> society.settle(2));
        Check.same("marks", 3, society.told(0, 3));
        Check.same("settle without coins", 3, society.settle(0));
        int coins = society.told(1, 2);
        int box = society.count(5);
        Check.same("who lends", coins - 2, society.give(1, 0, 2));
        Check.same("settle with too few", 1, society.settle(0));
        Check.same("its purse", 0, society.told(0, 2));
        Check.same("the box", box + 2, society.count(5));
        society.give(1, 0, 3);
        Check.same("settle with more", 0, society.settle(0));
        Check.same("its purse", 2, society.told(0, 2));
        Check.same("the box", box + 3, society.count(5));
        Check.same("settle without marks", 0, society.settle(0));
        Check.same("its purse", 2, society.told(0, 2));
    }

    private static void told() {
        CombersSociety society = new CombersSociety();
        Check.refuses(society, "told(0, 0) of nobody", BAD_INDEX, () -> society.told(0, 0));
        society.join(7, 20);
        int[] due = {7, 20, 10, 0, 0, -1, 0, 0, 0};
        for (int what = 0; what < due.length; what++) {
            Check.same("told(0, " + what + ")", due[what], society.told(0, what));
        }
        int[] wrong = {-1, 9, Integer.MIN_VALUE, Integer.MAX_VALUE};
        for (int number : wrong) {
            Check.refuses(society, "told(0, " + number + ")", BAD_INDEX, () -> society.told(0, number));
            Check.refuses(society, "told(" + number + ", 0)", BAD_INDEX, () -> society.told(number, 0));
        }
        Check.refuses(society, "told(1, 0)", BAD_INDEX, () -> society.told(1, 0));
    }

    private static void toldOfSickness() {
        CombersSociety society = new CombersSociety();
        society.join(4, 9);
        society.join(4, 2);
        society.place(0, 2);
        society.place(1, 2);
        society.setFever(0, 2);
        society.pass(1);
        int[] sick = {4, 8, 18, 0, 0, 2, 1, 3, 1};
        for (int what = 0; what < sick.length; what++) {
            Check.same("told of a sick one " + what, sick[what], society.told(0, what));
        }
        society.pass(1);
        int[] dead = {4, 0, 0, 0, 0, -1, 2, 0, 0};
        for (int what = 0; what < dead.length; what++) {
            Check.same("told of a dead one " + what, dead[what], society.told(1, what));
        }
    }

    private static void toldOfOneDeadInDebt() {
        CombersSociety society = new CombersSociety();
        society.join(4, 1);
        society.join(4, 9);
        society.give(0, 1, 10);
        society.pass(4);
        Check.same("marks before", 1, society.told(0, 3));
        Check.same("unpaid weeks before", 4, society.told(0, 4));
        Check.same("who owes before", 0, society.owes());
        society.buy(1, 9);
        society.place(0, 1);
        society.setFever(4, 1);
        society.setFever(5, 1);
        society.pass(2);
        int[] dead = {4, 0, 0, 0, 0, -1, 2, 0, 0};
        for (int what = 0; what < dead.length; what++) {
            Check.same("told of one dead in debt " + what, dead[what], society.told(0, what));
        }
        Check.same("who owes then", -1, society.owes());
        Check.same("marks of all", 0, society.count(10));
    }

    private static void owes() {
        CombersSociety nobody = new CombersSociety();
        Check.same("owes of nobody", -1, nobody.owes());
        nobody.join(5, 5);
        Check.same("owes without marks", -1, nobody.owes());
        CombersSociety society = new CombersSociety();
        society.setDues(0);
        for (int i = 0; i < 4; i++) {
            society.join(1, 10);
        }
        society.give(1, 0, 10);
        society.give(2, 0, 10);
        society.give(3, 0, 10);
        society.pass(4);
        Check.same("the first of several", 1, society.owes());
        society.give(0, 1, 1);
        society.settle(1);
        Check.same("the next of several", 2, society.owes());
        society.give(0, 2, 1);
        society.pass(4);
        Check.same("the one with the most", 3, society.owes());
    }
}
