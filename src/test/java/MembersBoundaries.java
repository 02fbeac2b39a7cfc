/** Boundaries that the promises 1 to 7 name. */
final class MembersBoundaries {
    private static final Class<?> BAD_INDEX = IndexOutOfBoundsException.class;
    private static final Class<?> BAD_ARGUMENT = IllegalArgumentException.class;
    private static final Class<?> BAD_STATE = IllegalStateException.class;
    private static final int LEAST = Integer.MIN_VALUE;
    private static final int MOST = Integer.MAX_VALUE;

    private MembersBoundaries() {
    }

    private static CombersSociety two() {
        return Check.with(5, 9, 6, 9);
    }

    static void newObject() {
        CombersSociety society = new CombersSociety();
        Check.same("week", 0, society.count(0));
        for (int what = 1; what <= 4; what++) {
            Check.same("no members: count(" + what + ")", 0, society.count(what));
        }
        Twins.refused(CombersSociety::new, "the member 0 of none", BAD_INDEX, s -> s.told(0, 0));
        society.join(5, 9);
        Check.same("another object has none still", 0, new CombersSociety().count(1));
    }

    static void joinAnswersTheNumber() {
        CombersSociety society = new CombersSociety();
        for (int i = 0; i <= 11; i++) {
            Check.same("the number", i, society.join(5, 9));
            Check.same("joined", i + 1, society.count(1));
        }
    }

    static void joinWithSkillAndStrength() {
        CombersSociety society = new CombersSociety();
        Check.same("the least of both", 0, society.join(1, 1));
        Check.same("the most of both", 1, society.join(9, 20));
        int[] skills = {0, 10, -1, LEAST, MOST};
        for (int skill : skills) {
            Twins.refused(CombersSociety::new, "join(" + skill + ", 5)", BAD_ARGUMENT, s -> s.join(skill, 5));
        }
        int[] strengths = {0, 21, -1, LEAST, MOST};
        for (int strength : strengths) {
            Twins.refused(CombersSociety::new, "join(5, " + strength + ")", BAD_ARGUMENT, s -> s.join(5, strength));
        }
    }

    private static CombersSociety joined(int many) {
        CombersSociety society = new CombersSociety();
        for (int i = 0; i < many; i++) {
            society.join(5, 9);
        }
        return society;
    }

    static void joinBehindTwelve() {
        Check.same("the 12th", 11, joined(11).join(5, 9));
        Twins.refused(() -> joined(12), "a 13th", BAD_STATE, s -> s.join(5, 9));
    }

    static void placeAtAPotOrNone() {
        CombersSociety society = two();
        int[] pots = {2, 0, 1, -1};
        for (int pot : pots) {
            society.place(0, pot);
            Check.same("told of the pot " + pot, pot, society.told(0, 5));
            for (int other = 0; other <= 2; other++) {
                Check.same("members at " + other, other == pot ? 1 : 0, society.pot(other, 1));
            }
        }
    }

    static void placeOfWellOrSick() {
        CombersSociety society = Scenes.deadSickWell();
        Check.same("the sick one", 0, society.place(1, 2));
        Check.same("is sick still", 1, society.told(1, 6));
        Check.same("there", 2, society.told(1, 5));
        Check.same("the sick one to none", 2, society.place(1, -1));
        Check.same("the well one", -1, society.place(2, 2));
        Twins.refused(Scenes::deadSickWell, "place of the dead one", BAD_STATE, s -> s.place(0, 2));
    }

    static void placeAtNoneHasNoLimit() {
        CombersSociety society = joined(12);
        for (int i = 0; i < 12; i++) {
            Check.same("from none to none", -1, society.place(i, -1));
        }
        Twins.refused(() -> joined(12), "place(0, -2)", BAD_INDEX, s -> s.place(0, -2));
    }

    static void placeAnswersThePotBefore() {
        CombersSociety society = two();
        int[] pots = {0, 2, 2, -1, -1, 1};
        int before = -1;
        for (int pot : pots) {
            Check.same("the pot before", before, society.place(1, pot));
            before = pot;
        }
    }

    static void placeOfNobodyOrNowhere() {
        CombersSociety society = joined(12);
        Check.same("place(11, 2)", -1, society.place(11, 2));
        Check.same("place(0, 0)", -1, society.place(0, 0));
        int[] members = {-1, 2, 11, 12, LEAST, MOST};
        for (int member : members) {
            Twins.refused(() -> two(), "place(" + member + ", 0)", BAD_INDEX, s -> s.place(member, 0));
        }
        Twins.refused(() -> joined(12), "place(12, 0)", BAD_INDEX, s -> s.place(12, 0));
        int[] pots = {-2, 3, LEAST, MOST};
        for (int pot : pots) {
            Twins.refused(() -> two(), "place(0, " + pot + ")", BAD_INDEX, s -> s.place(0, pot));
        }
    }

    private static CombersSociety placed(int many, int pot) {
        CombersSociety society = joined(6);
        for (int i = 0; i < many; i++) {
            society.place(i, pot);
        }
        return society;
    }

    static void placeOfADeadOneOrAtAFullPot() {
        for (int pot = 0; pot <= 2; pot++) {
            int which = pot;
            Check.same("3 others at the pot " + which, -1, placed(3, which).place(5, which));
            Check.same("3 others at the own pot", which, placed(4, which).place(3, which));
            Twins.refused(() -> placed(4, which), "4 others at the pot " + which, BAD_STATE, s -> s.place(5, which));
            Twins.refused(Scenes::deadSickWell, "the dead one to " + which, BAD_STATE, s -> s.place(0, which));
        }
        Twins.refused(Scenes::deadSickWell, "the dead one to none", BAD_STATE, s -> s.place(0, -1));
    }

    static void giveAnswersWhatIsLeft() {
        CombersSociety society = two();
        Check.same("9 of 10", 1, society.give(0, 1, 9));
        Check.same("who gets", 19, society.told(1, 2));
        Check.same("the last one", 0, society.give(0, 1, 1));
        Check.same("who gets", 20, society.told(1, 2));
        Check.same("to a sick one", 7, Scenes.deadSickWell().give(2, 1, 1));
        Check.same("of a sick one", 17, Scenes.deadSickWell().give(1, 2, 1));
    }

    static void giveOfOrToNobody() {
        Check.same("the last of 12 to the first", 9, joined(12).give(11, 0, 1));
        Check.same("the first to the last of 12", 9, joined(12).give(0, 11, 1));
        int[] members = {-1, 2, 12, LEAST, MOST};
        for (int member : members) {
            Twins.refused(() -> two(), "give of " + member, BAD_INDEX, s -> s.give(member, 0, 1));
            Twins.refused(() -> two(), "give to " + member, BAD_INDEX, s -> s.give(0, member, 1));
        }
        Twins.refused(() -> joined(12), "give of 12", BAD_INDEX, s -> s.give(12, 0, 1));
        Twins.refused(() -> joined(12), "give to 12", BAD_INDEX, s -> s.give(0, 12, 1));
    }

    private static CombersSociety withPurse(int coins) {
        CombersSociety society = joined(12);
        for (int i = 1; i < 12; i++) {
            int missing = coins - society.told(0, 2);
            if (missing > 0) {
                society.give(i, 0, missing > 10 ? 10 : missing);
            }
        }
        return society;
    }

    static void giveFromOneToNinetyNine() {
        Check.same("1 coin", 109, withPurse(110).give(0, 1, 1));
        Check.same("99 coins", 11, withPurse(110).give(0, 1, 99));
        int[] coins = {0, 100, -1, LEAST, MOST};
        for (int many : coins) {
            Twins.refused(() -> withPurse(110), "give of " + many, BAD_ARGUMENT, s -> s.give(0, 1, many));
        }
    }

    static void giveToTheSameOrOfTooFewCoins() {
        Check.same("99 of 99", 0, withPurse(99).give(0, 1, 99));
        Twins.refused(() -> withPurse(98), "99 of 98", BAD_STATE, s -> s.give(0, 1, 99));
        Check.same("10 of 10", 0, two().give(1, 0, 10));
        Twins.refused(() -> two(), "11 of 10", BAD_STATE, s -> s.give(1, 0, 11));
        Twins.refused(() -> two(), "to the same", BAD_STATE, s -> s.give(1, 1, 1));
        Twins.refused(Scenes::deadSickWell, "to the dead one", BAD_STATE, s -> s.give(2, 0, 1));
        Twins.refused(Scenes::deadSickWell, "of the dead one", BAD_STATE, s -> s.give(0, 2, 1));
    }

    static void settleAsFarAsCoinsGo() {
        int[] coins = {0, 1, 2, 3, 4};
        for (int coin : coins) {
            CombersSociety society = Scenes.withMarks(3);
            Scenes.purse(society, 0, society.join(1, 9), coin);
            int box = society.count(5);
            int paid = coin < 3 ? coin : 3;
            Check.same("marks left of 3 with " + coin + " coins", 3 - paid, society.settle(0));
            Check.same("coins left", coin - paid, society.told(0, 2));
            Check.same("the box", box + paid, society.count(5));
        }
    }

    static void settleAnswersTheMarksLeft() {
        CombersSociety society = Scenes.withMarks(2);
        Check.same("no coin", 2, society.settle(0));
        Scenes.purse(society, 0, society.join(1, 9), 1);
        Check.same("one coin", 1, society.settle(0));
        Check.same("told of it", 1, society.told(0, 3));
        Scenes.purse(society, 0, 2, 2);
        Check.same("coins enough", 0, society.settle(0));
        Check.same("without marks", 0, society.settle(0));
        Check.same("nothing is paid then", 1, society.told(0, 2));
        Check.same("of a sick one", 0, Scenes.deadSickWell().settle(1));
    }

    static void settleOfNobody() {
        Check.same("the last of two", 0, two().settle(1));
        Check.same("the last of 12", 0, joined(12).settle(11));
        int[] members = {-1, 2, 12, LEAST, MOST};
        for (int member : members) {
            Twins.refused(() -> two(), "settle(" + member + ")", BAD_INDEX, s -> s.settle(member));
        }
        Twins.refused(() -> joined(12), "settle(12)", BAD_INDEX, s -> s.settle(12));
    }

    static void settleOfADeadOne() {
        Twins.refused(Scenes::deadSickWell, "settle of the dead one", BAD_STATE, s -> s.settle(0));
        Check.same("settle of the sick one", 0, Scenes.deadSickWell().settle(1));
        Check.same("settle of the well one", 0, Scenes.deadSickWell().settle(2));
    }

    static void toldFromZeroToEight() {
        int[][] due = {
            {5, 0, 0, 0, 0, -1, 2, 0, 0},
            {5, 8, 18, 0, 0, 0, 1, 3, 1},
            {5, 9, 8, 0, 0, -1, 0, 0, 0}
        };
        for (int member = 0; member < due.length; member++) {
            for (int what = 0; what <= 8; what++) {
                int one = member;
                int which = what;
                String call = "told(" + one + ", " + which + ")";
                Twins.unchanged(Scenes::deadSickWell, call, due[one][which], s -> s.told(one, which));
            }
        }
        CombersSociety debtor = Scenes.withMarks(3);
        debtor.setDues(1);
        debtor.pass(2);
        Check.same("marks", 3, debtor.told(0, 3));
        Check.same("unpaid weeks", 2, debtor.told(0, 4));
    }

    static void toldOfNobodyOrNothing() {
        Check.same("the first of two", 5, two().told(0, 0));
        Check.same("the last of two", 0, two().told(1, 8));
        Check.same("the last of 12", 5, joined(12).told(11, 0));
        int[] members = {-1, 2, 11, 12, LEAST, MOST};
        for (int member : members) {
            Twins.refused(() -> two(), "told(" + member + ", 0)", BAD_INDEX, s -> s.told(member, 0));
        }
        Twins.refused(() -> joined(12), "told(12, 0)", BAD_INDEX, s -> s.told(12, 0));
        int[] whats = {-1, 9, LEAST, MOST};
        for (int what : whats) {
            Twins.refused(() -> two(), "told(0, " + what + ")", BAD_INDEX, s -> s.told(0, what));
        }
    }

    /** Three without a coin, and then with these marks. */
    private static CombersSociety withMarksOfThree(int... marks) {
        CombersSociety society = joined(4);
        society.setDues(0);
        for (int i = 0; i < 3; i++) {
            society.give(i, 3, 10);
        }
        society.pass(12);
        int bank = society.join(5, 9);
        for (int i = 0; i < 3; i++) {
            if (marks[i] < 3) {
                society.give(bank, i, 3 - marks[i]);
                society.settle(i);
            }
        }
        return society;
    }

    static void owesTheMost() {
        int[][] marks = {{3, 2, 1}, {2, 3, 2}, {1, 2, 3}, {3, 3, 2}, {2, 3, 3}, {3, 2, 3}, {3, 3, 3}, {1, 1, 1}};
        int[] who = {0, 1, 2, 0, 1, 0, 0, 0};
        for (int i = 0; i < marks.length; i++) {
            int[] three = marks[i];
            String call = "owes with " + three[0] + ", " + three[1] + " and " + three[2] + " marks";
            Twins.unchanged(() -> withMarksOfThree(three), call, who[i], s -> s.owes());
        }
        Check.same("the last of 12", 11, lastOfTwelveInDebt().owes());
    }

    private static CombersSociety lastOfTwelveInDebt() {
        CombersSociety society = joined(12);
        society.setDues(0);
        society.give(11, 0, 10);
        society.pass(4);
        return society;
    }

    static void owesOfNobody() {
        Check.same("owes without members", -1, new CombersSociety().owes());
        Check.same("owes without marks", -1, joined(12).owes());
        Check.same("one mark", 0, withMarksOfThree(1, 0, 0).owes());
        Check.same("one mark of the third", 2, withMarksOfThree(0, 0, 1).owes());
        Check.same("none then", -1, withMarksOfThree(0, 0, 0).owes());
    }
}
