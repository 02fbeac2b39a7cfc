import java.math.BigInteger;

/** Boundaries that the promises 14 to 21 name. */
final class ForesightBoundaries {
    private static final Class<?> BAD_INDEX = IndexOutOfBoundsException.class;
    private static final Class<?> BAD_ARGUMENT = IllegalArgumentException.class;
    private static final Class<?> BAD_STATE = IllegalStateException.class;
    private static final int LEAST = Integer.MIN_VALUE;
    private static final int MOST = Integer.MAX_VALUE;

    private ForesightBoundaries() {
    }

    private static CombersSociety two() {
        return Check.with(5, 9, 6, 9);
    }

    private static CombersSociety twelve() {
        CombersSociety society = new CombersSociety();
        for (int i = 0; i < 12; i++) {
            society.join(1 + i % 9, 20 - i);
        }
        return society;
    }

    /** Nine at three pots with fevers, of whom some fall sick, get well and die within 60 weeks. */
    private static CombersSociety busy() {
        CombersSociety society = twelve();
        for (int i = 0; i < 9; i++) {
            society.place(i, i % 3);
        }
        int[] fevers = {-1, 0, -1, 1, -1, 2, 0, -1};
        for (int week = 0; week < 8; week++) {
            society.setFever(week, fevers[week]);
        }
        return society;
    }

    static void passAnswersTheGain() {
        Check.same("nobody pays", 0, new CombersSociety().pass(1));
        Check.same("two coins more", 2, two().pass(1));
        Check.same("4 coins fewer", -4, feverish(9, 60).pass(1));
        Check.same("all 3 coins fewer", -3, duelessFeverish(9, 3).pass(1));
        CombersSociety long60 = busy();
        int box = long60.count(5);
        int gain = long60.pass(60);
        Check.same("behind 60 weeks", long60.count(5) - box, gain);
    }

    /** 0 at the pot 0, where there is a fever in the week 0, and a well one who pays dues of 1. */
    private static CombersSociety feverish(int strength, int box) {
        CombersSociety society = Check.with(1, strength, 1, 9);
        society.place(0, 0);
        society.setFever(0, 0);
        Scenes.box(society, box);
        return society;
    }

    private static CombersSociety duelessFeverish(int strength, int box) {
        CombersSociety society = Scenes.beforeFever(strength);
        Scenes.box(society, box);
        return society;
    }

    static void passFromOneToSixty() {
        int[] weeks = {1, 2, 59, 60};
        for (int many : weeks) {
            CombersSociety society = busy();
            society.pass(many);
            Check.same("the week behind pass(" + many + ")", many, society.count(0));
        }
        int[] wrong = {0, 61, -1, LEAST, MOST};
        for (int many : wrong) {
            Twins.refused(ForesightBoundaries::busy, "pass(" + many + ")", BAD_ARGUMENT, s -> s.pass(many));
        }
    }

    /** One who burns a coal in each of 60 weeks, out of 90. */
    private static CombersSociety burning() {
        CombersSociety society = Check.with(1, 20);
        society.place(0, 0);
        society.buy(0, 60);
        return society;
    }

    static void foreseeOneToSixtyWeeks() {
        CombersSociety society = burning();
        for (int weeks = 1; weeks <= 60; weeks++) {
            Check.same("coals behind " + weeks, 90 - weeks, society.foresee(weeks, 6));
        }
        Twins.refused(ForesightBoundaries::burning, "0 weeks", BAD_ARGUMENT, s -> s.foresee(0, 6));
        Twins.refused(ForesightBoundaries::burning, "61 weeks", BAD_ARGUMENT, s -> s.foresee(61, 6));
    }

    static void foreseeTwoToEight() {
        int[] due = {1, 1, 1, 60, 29, 184, 16};
        CombersSociety society = Check.with(5, 1, 5, 9, 5, 9);
        society.place(0, 0);
        society.place(1, 0);
        society.setFever(0, 0);
        for (int what = 2; what <= 8; what++) {
            Check.same("foresee(1, " + what + ")", due[what - 2], society.foresee(1, what));
        }
        Twins.refused(ForesightBoundaries::busy, "foresee of the members", BAD_INDEX, s -> s.foresee(1, 1));
        Twins.refused(ForesightBoundaries::busy, "foresee of the purses", BAD_INDEX, s -> s.foresee(1, 9));
    }

    static void foreseeAsItComes() {
        int[] weeks = {1, 2, 59, 60};
        for (int many : weeks) {
            CombersSociety then = busy();
            then.pass(many);
            for (int what = 2; what <= 8; what++) {
                int which = what;
                String call = "foresee(" + many + ", " + which + ")";
                Twins.unchanged(ForesightBoundaries::busy, call, then.count(which), s -> s.foresee(many, which));
            }
        }
    }

    static void foreseeOfNoOrTooManyWeeks() {
        Check.same("foresee(1, 2)", 12, twelve().foresee(1, 2));
        Check.same("foresee(60, 2)", 12, twelve().foresee(60, 2));
        int[] wrong = {0, 61, -1, LEAST, MOST};
        for (int many : wrong) {
            Twins.refused(ForesightBoundaries::busy, "foresee(" + many + ", 2)", BAD_ARGUMENT, s -> s.foresee(many, 2));
        }
    }

    static void foreseeOfNothing() {
        Check.same("foresee(1, 2)", 2, two().foresee(1, 2));
        Check.same("foresee(1, 8)", 0, two().foresee(1, 8));
        int[] wrong = {1, 9, 0, -1, 12, LEAST, MOST};
        for (int what : wrong) {
            Twins.refused(ForesightBoundaries::busy, "foresee(1, " + what + ")", BAD_INDEX, s -> s.foresee(1, what));
        }
    }

    /** 0 and 1 at pots of their own with the heat 9, and so many coals and pounds of wool. */
    private static CombersSociety shortOf(int coals, int wool) {
        CombersSociety society = Scenes.withCoals(coals);
        society.buy(1, wool);
        society.place(society.join(4, 9), 2);
        society.place(society.join(9, 9), 0);
        return society;
    }

    static void earnsInThisWeek() {
        Twins.unchanged(Scenes::deadSickWell, "earns of the dead one", 0, s -> s.earns(0));
        Twins.unchanged(Scenes::deadSickWell, "earns of the sick one", 0, s -> s.earns(1));
        Twins.unchanged(Scenes::deadSickWell, "earns of the well one at none", 0, s -> s.earns(2));
        // The member 1 combs 4 and 9 pounds with a coal for the pot 2, and 4 and 7 without; 2 combs 12, or 9.
        int[][] cases = {{2, 30, 6, 6}, {1, 30, 5, 6}, {0, 30, 5, 4}, {2, 13, 6, 0}, {2, 12, 6, 0}, {2, 11, 5, 0}};
        for (int[] one : cases) {
            String with = " with " + one[0] + " coals and " + one[1] + " pounds";
            Twins.unchanged(() -> shortOf(one[0], one[1]), "earns(1)" + with, one[2], s -> s.earns(1));
            Twins.unchanged(() -> shortOf(one[0], one[1]), "earns(2)" + with, one[3], s -> s.earns(2));
        }
        Check.same("15 pounds: 2 are left for the second", 1, shortOf(2, 15).earns(2));
        Check.same("the fever comes behind the combing", 2, Scenes.beforeFever(1).earns(0));
    }

    static void earnsOfNobody() {
        Check.same("earns(11)", 0, twelve().earns(11));
        Check.same("earns(1)", 0, two().earns(1));
        int[] members = {-1, 2, 11, 12, LEAST, MOST};
        for (int member : members) {
            Twins.refused(() -> two(), "earns(" + member + ")", BAD_INDEX, s -> s.earns(member));
        }
        Twins.refused(() -> twelve(), "earns(12)", BAD_INDEX, s -> s.earns(12));
    }

    /** Sick one time in 8 weeks, from the week 11 on, and weaker each time: 76 weeks from the week 4 on. */
    private static CombersSociety dyingSlowly() {
        CombersSociety society = new CombersSociety();
        society.pass(4);
        society.place(society.join(1, 18), 0);
        society.setFever(3, 0);
        return society;
    }

    static void diesNowOrLaterOrNot() {
        Twins.unchanged(Scenes::deadSickWell, "dies of the dead one", 0, s -> s.dies(0));
        Twins.unchanged(Scenes::deadSickWell, "dies of the sick one", -1, s -> s.dies(1));
        Twins.unchanged(Scenes::deadSickWell, "dies of the well one", -1, s -> s.dies(2));
        Twins.unchanged(() -> Scenes.beforeFever(1), "dies in the coming week", 1, s -> s.dies(0));
        Twins.unchanged(() -> Scenes.beforeFever(2), "dies in the next week", 2, s -> s.dies(0));
        Twins.unchanged(ForesightBoundaries::dyingSlowly, "dies in 76 weeks", 76, s -> s.dies(0));
        CombersSociety slow = dyingSlowly();
        for (int left = 76; left > 0; left--) {
            Check.same("not dead", left, slow.dies(0));
            slow.pass(1);
        }
        Check.same("dead", 2, slow.told(0, 6));
        Check.same("dies of who is dead", 0, slow.dies(0));
        slow.pass(60);
        Check.same("dies of who is long dead", 0, slow.dies(0));
    }

    static void diesOfNobody() {
        Check.same("dies(11)", -1, twelve().dies(11));
        Check.same("dies(1)", -1, two().dies(1));
        int[] members = {-1, 2, 11, 12, LEAST, MOST};
        for (int member : members) {
            Twins.refused(() -> two(), "dies(" + member + ")", BAD_INDEX, s -> s.dies(member));
        }
        Twins.refused(() -> twelve(), "dies(12)", BAD_INDEX, s -> s.dies(12));
    }

    /** The first lack is a sick pay of less than 5 coins, 105 weeks later. */
    private static CombersSociety fallingSlowly() {
        CombersSociety society = Check.with(9, 1, 1, 20, 2, 9);
        society.place(0, 1);
        society.setDues(3);
        society.pass(58);
        society.setDues(0);
        society.setFever(1, 1);
        Scenes.box(society, 36);
        return society;
    }

    static void lastsUpToAHundredWeeks() {
        CombersSociety society = fallingSlowly();
        for (int left = 105; left > 0; left--) {
            int due = left <= 100 ? left : -1;
            Check.same("lasts with " + left + " weeks left", due, society.lasts());
            int paid = society.count(11);
            society.pass(1);
            if (left == 1) {
                Check.judge(society.count(11) - paid < 5, "the lack", "less than 5 coins", "5");
            }
        }
    }

    static void lastsOfASickPay() {
        int[] boxes = {7, 6, 5, 4, 0};
        int[] due = {2, 2, 2, 1, 1};
        for (int i = 0; i < boxes.length; i++) {
            int box = boxes[i];
            Twins.unchanged(() -> duelessFeverish(9, box), "lasts with " + box + " coins", due[i], s -> s.lasts());
        }
        int[] later = {20, 19, 18, 17, 16, 15, 14};
        int[] laterDue = {-1, -1, 5, 5, 4, 4, 3};
        for (int i = 0; i < later.length; i++) {
            CombersSociety society = duelessFeverish(7, later[i]);
            society.pass(1);
            society.setFever(0, -1);
            int lack = laterDue[i] < 0 ? -1 : laterDue[i] - 1;
            Check.same("lasts a week later, with " + later[i] + " coins at first", lack, society.lasts());
        }
    }

    static void lastsOfAFuneral() {
        int[] boxes = {13, 12, 11, 0};
        int[] due = {-1, -1, 1, 1};
        for (int i = 0; i < boxes.length; i++) {
            int box = boxes[i];
            Twins.unchanged(() -> duelessFeverish(1, box), "lasts with " + box + " coins", due[i], s -> s.lasts());
        }
        CombersSociety unpaid = Check.with(1, 3, 1, 9);
        unpaid.give(0, 1, 10);
        unpaid.pass(3);
        Scenes.box(unpaid, 0);
        unpaid.place(0, 0);
        unpaid.setFever(3, 0);
        unpaid.setDues(0);
        Check.same("no sick pay is due, but a funeral in the third week", 3, unpaid.lasts());
    }

    static void lastsForever() {
        Twins.unchanged(CombersSociety::new, "lasts of nobody", -1, s -> s.lasts());
        Twins.unchanged(() -> twelve(), "lasts without fevers", -1, s -> s.lasts());
        Twins.unchanged(() -> duelessFeverish(1, 12), "lasts with all that is needed", -1, s -> s.lasts());
        CombersSociety over = duelessFeverish(1, 11);
        Check.same("lasts with a coin too few", 1, over.lasts());
        over.pass(1);
        Check.same("lasts behind it", -1, over.lasts());
    }

    /** One of the strength 12, who misses a week at the pots if a fever comes before it. */
    private static CombersSociety withFeverAtZero(int week) {
        CombersSociety society = Check.with(5, 12);
        society.setFever(week, 0);
        return society;
    }

    static void adviseForSixWeeks() {
        Twins.unchanged(() -> withFeverAtZero(0), "advise with a fever in the week 0", 1, s -> s.advise(0));
        Twins.unchanged(() -> withFeverAtZero(4), "advise with a fever in the fifth week", 1, s -> s.advise(0));
        Twins.unchanged(() -> withFeverAtZero(5), "advise with a fever in the sixth week", 0, s -> s.advise(0));
        Twins.unchanged(() -> withFeverAtZero(6), "advise with a fever in the seventh week", 0, s -> s.advise(0));
    }

    static void adviseOfWellOrSick() {
        CombersSociety society = Scenes.deadSickWell();
        society.place(2, 2);
        Check.same("the sick one, to the pot that will be hot", 2, society.advise(1));
        society.place(2, 1);
        Check.same("to the other pot", 1, society.advise(1));
        Check.same("the well one, who is the only one", 0, society.advise(2));
    }

    /** 4 has the strength 1, and would die early at the pots 0 and 1; at 2 there are so many others, who are sick. */
    private static CombersSociety safeOnlyAtTwo(int others) {
        CombersSociety society = Check.with(1, 7, 1, 7, 1, 7, 1, 7, 9, 1);
        for (int i = 0; i < others; i++) {
            society.place(i, 2);
        }
        society.setFever(0, 2);
        society.setFever(1, 0);
        society.setFever(2, 1);
        society.pass(1);
        return society;
    }

    static void adviseWhereFewerThanFourOthersAre() {
        Twins.unchanged(() -> safeOnlyAtTwo(3), "advise with 3 others", 2, s -> s.advise(4));
        Twins.unchanged(() -> safeOnlyAtTwo(4), "advise with 4 others", 1, s -> s.advise(4));
        CombersSociety own = safeOnlyAtTwo(3);
        own.place(4, 2);
        Check.same("3 others at the own pot", 2, own.advise(4));
        CombersSociety harm = betterWithout();
        int without = harm.foresee(6, 8);
        Check.same("one who does harm at each pot", 0, harm.advise(9));
        harm.place(9, 0);
        Check.judge(harm.foresee(6, 8) < without, "tops with this one", "fewer", "as many");
    }

    static void adviseTheSmallestNumber() {
        Check.same("all alike", 0, two().advise(1));
        CombersSociety two = two();
        two.place(1, 2);
        Check.same("all alike for one at the pot 2", 0, two.advise(1));
        CombersSociety fever = Check.with(5, 1);
        fever.setFever(0, 0);
        Check.same("1 and 2 alike, and better than 0", 1, fever.advise(0));
        CombersSociety full = placedByFours(4);
        Check.same("1 and 2 alike, and 0 is full", 1, full.advise(4));
        CombersSociety none = withoutWoolAndTops();
        none.place(0, -1);
        none.place(4, -1);
        Check.same("no tops at any pot", 0, none.advise(11));
    }

    /** A member who is at no pot, would do harm at each one, and is advised nevertheless. */
    private static CombersSociety betterWithout() {
        CombersSociety society = new CombersSociety();
        for (int i = 0; i < 9; i++) {
            society.place(society.join(1, 20), i / 3);
        }
        society.join(1, 1);
        society.buy(1, 180);
        return society;
    }

    /** Neither wool nor tops are left. */
    private static CombersSociety withoutWoolAndTops() {
        CombersSociety society = Scenes.withManyTops();
        society.sell(500);
        society.sell(2);
        return society;
    }

    /** 12 members, of whom so many are at the pots, 4 at 0, then 4 at 1, and then at 2. */
    private static CombersSociety placedByFours(int many) {
        CombersSociety society = twelve();
        for (int i = 0; i < many; i++) {
            society.place(i, i / 4);
        }
        return society;
    }

    /** With 12 members 11 others can't fill three pots, so that -1 is never due: one pot at least is left. */
    static void adviseTheOnlyPotThatIsLeft() {
        Twins.unchanged(() -> placedByFours(11), "advise of the only one at none", 2, s -> s.advise(11));
        for (int member = 0; member < 12; member++) {
            int one = member;
            Twins.unchanged(() -> placedByFours(12), "advise of " + one + " at full pots", one / 4, s -> s.advise(one));
        }
    }

    static void adviseOfNobody() {
        Check.same("advise(11)", 0, twelve().advise(11));
        Check.same("advise(1)", 0, two().advise(1));
        int[] members = {-1, 2, 11, 12, LEAST, MOST};
        for (int member : members) {
            Twins.refused(() -> two(), "advise(" + member + ")", BAD_INDEX, s -> s.advise(member));
        }
        Twins.refused(() -> twelve(), "advise(12)", BAD_INDEX, s -> s.advise(12));
    }

    static void adviseOfADeadOne() {
        Twins.refused(Scenes::deadSickWell, "advise of the dead one", BAD_STATE, s -> s.advise(0));
        Check.same("advise of the sick one", 0, Scenes.deadSickWell().advise(1));
        Check.same("advise of the well one", 0, Scenes.deadSickWell().advise(2));
    }

    static void meanOfWhoIsNotDead() {
        Check.sameDouble("mean of one", 1.0, Check.with(5, 1).mean());
        Check.sameDouble("mean of two", 10.5, Check.with(5, 1, 5, 20).mean());
        Check.sameDouble("mean of three", 22.0 / 3.0, Check.with(5, 1, 5, 20, 5, 1).mean());
        Check.sameDouble("mean of twelve", 14.5, twelve().mean());
        Check.sameDouble("mean of the sick and the well one", 8.5, Scenes.deadSickWell().mean());
    }

    static void meanOfNobody() {
        Check.sameDouble("mean without members", 0.0, new CombersSociety().mean());
        CombersSociety last = Scenes.beforeFever(1);
        Check.sameDouble("mean before the last death", 1.0, last.mean());
        last.pass(1);
        Check.sameDouble("mean with all dead", 0.0, last.mean());
    }

    private static BigInteger next(BigInteger sum, int number) {
        return sum.multiply(BigInteger.valueOf(31)).add(BigInteger.valueOf(number));
    }

    /** The sum with all its digits, as the calls tell the numbers; its last 64 bits are the digest. */
    private static BigInteger sumOf(CombersSociety society, int dues, int... fevers) {
        BigInteger sum = BigInteger.valueOf(1361);
        for (int what = 0; what <= 12; what++) {
            sum = next(sum, society.count(what));
        }
        sum = next(sum, dues);
        for (int week = 0; week < 8; week++) {
            sum = next(sum, fevers[week]);
        }
        for (int pot = 0; pot <= 2; pot++) {
            for (int what = 0; what <= 3; what++) {
                sum = next(sum, society.pot(pot, what));
            }
        }
        for (int member = 0; member < society.count(1); member++) {
            for (int what = 0; what <= 8; what++) {
                sum = next(sum, society.told(member, what));
            }
        }
        return sum;
    }

    static void digestStartsWith1361() {
        int[] numbers = {
            0, 0, 0, 0, 0, 60, 30, 200, 0, 0, 0, 0, 0, 1, -1, -1, -1, -1, -1, -1, -1, -1,
            0, 0, 0, 0, 0, 0, 0, 0, 0, 0, 0, 0
        };
        BigInteger sum = BigInteger.valueOf(1361);
        for (int number : numbers) {
            sum = next(sum, number);
        }
        Twins.unchanged(CombersSociety::new, "digest of a new one", sum.longValue(), s -> s.digest());
    }

    static void digestWrapsAround() {
        int belowZero = 0;
        for (int weeks = 1; weeks <= 12; weeks++) {
            CombersSociety society = busy();
            society.pass(weeks);
            BigInteger sum = sumOf(society, 1, -1, 0, -1, 1, -1, 2, 0, -1);
            Check.judge(sum.bitLength() > 64, "the sum", "more than 64 bits", "" + sum.bitLength());
            Check.same("the last 64 bits", sum.longValue(), society.digest());
            belowZero += society.digest() < 0 ? 1 : 0;
        }
        Check.judge(belowZero > 0 && belowZero < 12, "digests below 0", "some", "" + belowZero);
    }

    static void digestOfNoneAndOfTwelveMembers() {
        CombersSociety none = new CombersSociety();
        none.setDues(3);
        none.setFever(0, 2);
        none.setFever(7, 0);
        Check.same("without members", sumOf(none, 3, 2, -1, -1, -1, -1, -1, -1, 0).longValue(), none.digest());
        CombersSociety full = busy();
        full.setDues(0);
        full.pass(30);
        BigInteger sum = sumOf(full, 0, -1, 0, -1, 1, -1, 2, 0, -1);
        Check.judge(full.count(4) > 0, "who are dead", "some", "none");
        Check.same("with twelve members, some of them dead", sum.longValue(), full.digest());
    }
}
