/** Promises 15 to 19: what would be. */
public final class ForesightTest {
    private static final Class<?> BAD_INDEX = IndexOutOfBoundsException.class;
    private static final Class<?> BAD_ARGUMENT = IllegalArgumentException.class;
    private static final Class<?> BAD_STATE = IllegalStateException.class;
    private static final int[] NO_MEMBERS = {-1, 1, 12, Integer.MIN_VALUE, Integer.MAX_VALUE};

    public static void main(String[] args) {
        foresee();
        foreseeAsPassed();
        foreseeInASickness();
        earns();
        earnsShortOfWoolAndCoals();
        dies();
        diesAsItComes();
        lastsOfSickPay();
        lastsOfFunerals();
        lastsWithoutSickPay();
        lastsAtTheEdge();
        advise();
        adviseOfTheSickAndDead();
        Check.end();
    }

    private static void foresee() {
        CombersSociety society = Check.with(5, 5);
        int[] wrongWeeks = {-1, 0, 61, Integer.MIN_VALUE, Integer.MAX_VALUE};
        for (int weeks : wrongWeeks) {
            Check.refuses(society, "foresee(" + weeks + ", 2)", BAD_ARGUMENT, () -> society.foresee(weeks, 2));
            Check.refuses(society, "foresee(" + weeks + ", 9)", BAD_ARGUMENT, () -> society.foresee(weeks, 9));
        }
        int[] wrongWhats = {-1, 0, 1, 9, 12, Integer.MIN_VALUE, Integer.MAX_VALUE};
        for (int what : wrongWhats) {
            Check.refuses(society, "foresee(1, " + what + ")", BAD_INDEX, () -> society.foresee(1, what));
        }
        Check.same("foresee(60, 2)", 1, society.foresee(60, 2));
    }

    private static void foreseeAsPassed() {
        int[] spans = {1, 2, 3, 7, 60};
        for (int weeks : spans) {
            CombersSociety society = Check.with(5, 1, 6, 7, 9, 20, 2, 13, 7, 3);
            for (int i = 0; i < 5; i++) {
                society.place(i, i % 3);
            }
            society.setFever(0, 0);
            society.setFever(1, 1);
            society.setFever(6, 2);
            long before = society.digest();
            int[] foreseen = new int[9];
            for (int what = 2; what <= 8; what++) {
                foreseen[what] = society.foresee(weeks, what);
            }
            Check.same("nothing is changed", before, society.digest());
            society.pass(weeks);
            for (int what = 2; what <= 8; what++) {
                Check.same("foresee(" + weeks + ", " + what + ")", society.count(what), foreseen[what]);
            }
        }
    }

    /** From the second week of a sickness on: 5 and 5 coins are paid yet, then 2. */
    private static void foreseeInASickness() {
        CombersSociety society = Check.with(1, 9, 1, 7);
        society.setDues(0);
        society.place(1, 0);
        society.setFever(0, 0);
        society.pass(1);
        Check.same("the third week of it", 55 - 5 - 5, society.foresee(2, 5));
        Check.same("the fourth week of it, and a club night", 55 - 5 - 5 - 2 + 2, society.foresee(3, 5));
        Check.same("sick behind 3 weeks", 1, society.foresee(3, 3));
        Check.same("well behind 4 weeks", 0, society.foresee(4, 3));
    }

    private static void earns() {
        CombersSociety society = Check.with(5, 9);
        for (int member : NO_MEMBERS) {
            Check.refuses(society, "earns(" + member + ")", BAD_INDEX, () -> society.earns(member));
        }
        Check.same("at no pot", 0, society.earns(0));
        society.place(0, 0);
        long before = society.digest();
        Check.same("8 pounds", 4, society.earns(0));
        Check.same("nothing is changed", before, society.digest());
        society.pass(1);
        Check.same("11 pounds, cut", 5, society.earns(0));
        society.setFever(1, 0);
        Check.same("the fever comes later", 5, society.earns(0));
        society.pass(1);
        Check.same("sick", 0, society.earns(0));
        CombersSociety dying = Check.with(5, 1);
        dying.place(0, 0);
        dying.setFever(0, 0);
        Check.same("before the death", 4, dying.earns(0));
        dying.pass(1);
        Check.same("dead", 0, dying.earns(0));
    }

    private static void earnsShortOfWoolAndCoals() {
        CombersSociety society = Check.with(9, 9, 9, 9, 9, 9);
        for (int i = 0; i < 3; i++) {
            society.place(i, i);
        }
        society.pass(4);
        // 200 less 36, 45, 54 and 54 pounds: 11.
        Check.same("what is left", 5, society.earns(0));
        Check.same("nothing is left", 0, society.earns(1));
        society.buy(1, 9);
        Check.same("18 pounds", 9, society.earns(0));
        Check.same("2 pounds", 1, society.earns(1));
        Check.same("nothing is left", 0, society.earns(2));
        society.buy(1, 100);
        society.pass(1);
        Check.same("coals", 15, society.count(6));
        society.pass(5);
        society.buy(1, 9);
        society.place(2, -1);
        society.place(1, -1);
        Check.same("no coal, heat 7 and 9 pounds only", 4, society.earns(0));
    }

    private static void dies() {
        CombersSociety society = Check.with(5, 3);
        for (int member : NO_MEMBERS) {
            Check.refuses(society, "dies(" + member + ")", BAD_INDEX, () -> society.dies(member));
        }
        Check.same("without fevers", -1, society.dies(0));
        society.place(0, 1);
        society.setFever(2, 1);
        long before = society.digest();
        Check.same("in the fifth week", 5, society.dies(0));
        Check.same("nothing is changed", before, society.digest());
        society.pass(4);
        Check.same("in the next week", 1, society.dies(0));
        society.pass(1);
        Check.same("now", 0, society.dies(0));
        society.pass(1);
        Check.same("still", 0, society.dies(0));
    }

    private static void diesAsItComes() {
        for (int strength = 1; strength <= 20; strength++) {
            for (int fevers = 1; fevers < 256; fevers += 6) {
                CombersSociety society = Check.with(5, strength);
                society.place(0, 0);
                setFevers(society, fevers);
                int foreseen = society.dies(0);
                int weeks = weeksToDeath(society, 100);
                Check.same("dies of " + strength + " and " + fevers, weeks, foreseen);
            }
        }
    }

    private static void setFevers(CombersSociety society, int fevers) {
        for (int week = 0; week < 8; week++) {
            society.setFever(week, (fevers >> week & 1) == 1 ? 0 : -1);
        }
    }

    private static int weeksToDeath(CombersSociety society, int most) {
        for (int weeks = 0; weeks <= most; weeks++) {
            if (society.told(0, 6) == 2) {
                return weeks;
            }
            society.pass(1);
        }
        return -1;
    }

    /** A box that falls slowly to its first lack, a sick pay of less than 5 coins 105 weeks later. */
    private static void lastsAtTheEdge() {
        CombersSociety society = Check.with(9, 1, 1, 20, 2, 9);
        society.place(0, 1);
        society.setDues(3);
        society.pass(58);
        society.setDues(0);
        society.setFever(1, 1);
        society.buy(0, society.count(5) - 36);
        for (int left = 105; left > 0; left--) {
            int due = left <= 100 ? left : -1;
            Check.same("lasts with " + left + " weeks left", due, society.lasts());
            society.pass(1);
        }
        Check.same("the box is empty then", 0, society.count(5));
    }

    private static void lastsOfSickPay() {
        CombersSociety nobody = new CombersSociety();
        Check.same("lasts of nobody", -1, nobody.lasts());
        CombersSociety society = Check.with(1, 9, 1, 9);
        society.setDues(0);
        society.place(0, 0);
        society.setFever(2, 0);
        Check.same("with a full box", -1, society.lasts());
        society.buy(0, 46);
        // 14 coins: 5 go in the weeks 2, 3 and 4, 2 come in the week 3, and 2 are due in the week 5.
        long before = society.digest();
        Check.same("a coin too few", 6, society.lasts());
        Check.same("nothing is changed", before, society.digest());
        CombersSociety poor = Check.with(1, 9);
        poor.setDues(0);
        poor.place(0, 0);
        poor.setFever(0, 0);
        poor.buy(0, 55);
        Check.same("5 coins are enough at first", 2, poor.lasts());
        poor.pass(1);
        Check.same("in the coming week", 1, poor.lasts());
        CombersSociety poorer = Check.with(1, 9);
        poorer.setDues(0);
        poorer.place(0, 0);
        poorer.setFever(0, 0);
        poorer.buy(0, 56);
        Check.same("4 coins are not", 1, poorer.lasts());
        poorer.give(poorer.join(1, 9), 0, 10);
        Check.same("purses do not matter", 1, poorer.lasts());
    }

    private static void lastsOfFunerals() {
        int[] coals = {47, 48, 49};
        int[] due = {-1, -1, 1};
        for (int i = 0; i < coals.length; i++) {
            CombersSociety society = Check.with(1, 1);
            society.place(0, 0);
            society.setFever(0, 0);
            society.buy(0, coals[i]);
            Check.same("lasts with " + (60 - coals[i]) + " coins", due[i], society.lasts());
        }
    }

    /** With three unpaid weeks nothing is due to the sick one, and the funeral is the first lack. */
    private static void lastsWithoutSickPay() {
        CombersSociety society = Check.with(1, 4, 1, 9);
        society.give(0, 1, 10);
        society.pass(3);
        society.buy(0, society.count(5));
        society.place(0, 0);
        society.setFever(3, 0);
        society.setDues(0);
        Check.same("the week of the funeral", 4, society.lasts());
        Check.same("the week of the death", 4, society.dies(0));
    }

    private static void advise() {
        CombersSociety society = Check.with(9, 9);
        for (int member : NO_MEMBERS) {
            Check.refuses(society, "advise(" + member + ")", BAD_INDEX, () -> society.advise(member));
        }
        long before = society.digest();
        Check.same("all alike: the smallest number", 0, society.advise(0));
        Check.same("nothing is changed", before, society.digest());
        society.place(0, 2);
        Check.same("wherever this one is", 0, society.advise(0));
        society.pass(2);
        Check.same("the hot pot", 2, society.advise(0));
        society.setFever(2, 2);
        Check.same("a fever there", 0, society.advise(0));
        society.setFever(3, 0);
        society.setFever(2, 0);
        Check.same("a fever elsewhere", 2, society.advise(0));
        CombersSociety crowd = Check.with(9, 9, 9, 9, 9, 9, 9, 9, 9, 9);
        crowd.buy(1, 180);
        for (int i = 0; i < 4; i++) {
            crowd.place(i, 0);
        }
        Check.same("four others are there", 1, crowd.advise(4));
        Check.same("three others are there", 1, crowd.advise(3));
        CombersSociety woolless = Check.with(9, 9, 9, 9);
        woolless.place(0, 0);
        woolless.place(1, 1);
        woolless.pass(10);
        Check.same("no wool", 0, woolless.count(7));
        Check.same("no tops more at any pot", 0, woolless.advise(1));
        CombersSociety full = Check.with(1, 9, 1, 9, 1, 9, 1, 9, 1, 9, 1, 9, 1, 9, 1, 9, 1, 9, 1, 9, 1, 9, 9, 9);
        for (int i = 0; i < 8; i++) {
            full.place(i, i / 4);
        }
        Check.same("room at the pot 2 only", 2, full.advise(11));
        for (int i = 8; i < 12; i++) {
            full.place(i, 2);
        }
        Check.same("room at the own pot only", 2, full.advise(11));
        Check.same("room at the own pot only", 0, full.advise(0));
    }

    private static void adviseOfTheSickAndDead() {
        CombersSociety society = Check.with(9, 20, 9, 15, 9, 1);
        for (int i = 0; i < 3; i++) {
            society.place(i, 1);
        }
        society.setFever(0, 1);
        society.pass(1);
        Check.same("a sick one", 1, society.told(1, 6));
        Check.same("a sick one is advised", 1, society.advise(1));
        Check.refuses(society, "advise of a dead one", BAD_STATE, () -> society.advise(2));
    }
}
