/** Boundaries that the promises 8 to 13 name. */
final class StoresBoundaries {
    private static final Class<?> BAD_INDEX = IndexOutOfBoundsException.class;
    private static final Class<?> BAD_ARGUMENT = IllegalArgumentException.class;
    private static final Class<?> BAD_STATE = IllegalStateException.class;
    private static final int LEAST = Integer.MIN_VALUE;
    private static final int MOST = Integer.MAX_VALUE;

    private StoresBoundaries() {
    }

    static void feverInAWeekFromZeroToSeven() {
        for (int week = 0; week <= 7; week++) {
            CombersSociety society = Check.with(1, 9);
            society.place(0, 0);
            Check.same("setFever(" + week + ", 0)", -1, society.setFever(week, 0));
            society.pass(week + 1);
            Check.same("sick in the week " + week, 1, society.told(0, 6));
        }
        Twins.refused(CombersSociety::new, "the week -1", BAD_INDEX, s -> s.setFever(-1, 0));
        Twins.refused(CombersSociety::new, "the week 8", BAD_INDEX, s -> s.setFever(8, 0));
    }

    static void feverAtAPotOrNone() {
        for (int pot = -1; pot <= 2; pot++) {
            CombersSociety society = Check.with(1, 9, 1, 9, 1, 9);
            for (int i = 0; i < 3; i++) {
                society.place(i, i);
            }
            society.setFever(0, pot);
            society.pass(1);
            for (int i = 0; i < 3; i++) {
                Check.same("fever at " + pot + ", status at " + i, i == pot ? 1 : 0, society.told(i, 6));
            }
        }
        Twins.refused(CombersSociety::new, "a fever at -2", BAD_ARGUMENT, s -> s.setFever(0, -2));
        Twins.refused(CombersSociety::new, "a fever at 3", BAD_ARGUMENT, s -> s.setFever(0, 3));
    }

    static void setFeverAnswersTheOneBefore() {
        CombersSociety society = new CombersSociety();
        int[] pots = {2, 0, 0, 1, -1, -1, 2};
        int before = -1;
        for (int pot : pots) {
            for (int week = 0; week <= 7; week++) {
                Check.same("the fever before", before, society.setFever(week, pot));
            }
            before = pot;
        }
    }

    static void setFeverOfNoWeek() {
        Check.same("setFever(0, 1)", -1, new CombersSociety().setFever(0, 1));
        Check.same("setFever(7, 1)", -1, new CombersSociety().setFever(7, 1));
        int[] weeks = {-1, 8, LEAST, MOST};
        for (int week : weeks) {
            Twins.refused(CombersSociety::new, "setFever(" + week + ", 1)", BAD_INDEX, s -> s.setFever(week, 1));
        }
    }

    static void setFeverAtNoSuchPot() {
        Check.same("setFever(3, -1)", -1, new CombersSociety().setFever(3, -1));
        Check.same("setFever(3, 2)", -1, new CombersSociety().setFever(3, 2));
        int[] pots = {-2, 3, LEAST, MOST};
        for (int pot : pots) {
            Twins.refused(CombersSociety::new, "setFever(3, " + pot + ")", BAD_ARGUMENT, s -> s.setFever(3, pot));
        }
    }

    static void duesFromNowOn() {
        for (int dues = 0; dues <= 3; dues++) {
            CombersSociety society = Check.with(1, 9);
            society.setDues(dues);
            Check.same("dues of a week", dues, society.pass(1));
            Check.same("dues of the next week", dues, society.pass(1));
        }
    }

    static void setDuesAnswersTheDuesBefore() {
        CombersSociety society = new CombersSociety();
        int[] dues = {0, 3, 3, 2, 0, 1};
        int before = 1;
        for (int coins : dues) {
            Check.same("the dues before", before, society.setDues(coins));
            before = coins;
        }
    }

    static void setDuesFromZeroToThree() {
        Check.same("setDues(0)", 1, new CombersSociety().setDues(0));
        Check.same("setDues(3)", 1, new CombersSociety().setDues(3));
        int[] dues = {-1, 4, LEAST, MOST};
        for (int coins : dues) {
            Twins.refused(CombersSociety::new, "setDues(" + coins + ")", BAD_ARGUMENT, s -> s.setDues(coins));
        }
    }

    static void pricesOfCoalsAndWool() {
        int[] pounds = {1, 2, 3, 4, 5, 6, 7, 179, 180};
        int[] coins = {1, 1, 1, 2, 2, 2, 3, 60, 60};
        for (int i = 0; i < pounds.length; i++) {
            CombersSociety society = new CombersSociety();
            society.buy(1, pounds[i]);
            Check.same("coins left behind " + pounds[i] + " pounds", 60 - coins[i], society.count(5));
        }
        int[] coals = {1, 2, 3, 59, 60};
        for (int many : coals) {
            CombersSociety society = new CombersSociety();
            society.buy(0, many);
            Check.same("coins left behind " + many + " coals", 60 - many, society.count(5));
        }
    }

    static void buyOfCoalsOrWool() {
        CombersSociety society = new CombersSociety();
        society.buy(0, 5);
        Check.same("coals", 35, society.count(6));
        Check.same("no wool more", 200, society.count(7));
        society.buy(1, 5);
        Check.same("no coals more", 35, society.count(6));
        Check.same("wool", 205, society.count(7));
    }

    static void buyAnswersHowManyThereAre() {
        CombersSociety society = new CombersSociety();
        Check.same("coals and 1", 31, society.buy(0, 1));
        Check.same("coals and 2", 33, society.buy(0, 2));
        Check.same("wool and 1", 201, society.buy(1, 1));
        Check.same("wool and 2", 203, society.buy(1, 2));
    }

    static void buyOfNothing() {
        Check.same("buy(0, 1)", 31, new CombersSociety().buy(0, 1));
        Check.same("buy(1, 1)", 201, new CombersSociety().buy(1, 1));
        int[] whats = {-1, 2, LEAST, MOST};
        for (int what : whats) {
            Twins.refused(CombersSociety::new, "buy(" + what + ", 1)", BAD_INDEX, s -> s.buy(what, 1));
        }
    }

    private static CombersSociety rich() {
        CombersSociety society = Scenes.withManyTops();
        society.sell(500);
        return society;
    }

    static void buyFromOneToTwoHundred() {
        for (int what = 0; what <= 1; what++) {
            int which = what;
            int stored = rich().count(6 + which);
            Check.same("buy(" + which + ", 1)", stored + 1, rich().buy(which, 1));
            Check.same("buy(" + which + ", 200)", stored + 200, rich().buy(which, 200));
            int[] many = {0, 201, -1, LEAST, MOST};
            for (int number : many) {
                String call = "buy(" + which + ", " + number + ")";
                Twins.refused(StoresBoundaries::rich, call, BAD_ARGUMENT, s -> s.buy(which, number));
            }
        }
    }

    private static CombersSociety withBox(int coins) {
        CombersSociety society = new CombersSociety();
        Scenes.box(society, coins);
        return society;
    }

    static void buyForMoreThanTheBoxHas() {
        Check.same("60 coals for 60 coins", 90, withBox(60).buy(0, 60));
        Twins.refused(() -> withBox(60), "61 coals for 60 coins", BAD_STATE, s -> s.buy(0, 61));
        Check.same("180 pounds for 60 coins", 380, withBox(60).buy(1, 180));
        Twins.refused(() -> withBox(60), "181 pounds for 60 coins", BAD_STATE, s -> s.buy(1, 181));
        Check.same("4 pounds for 2 coins", 204, withBox(2).buy(1, 4));
        Twins.refused(() -> withBox(1), "4 pounds for 1 coin", BAD_STATE, s -> s.buy(1, 4));
        Check.same("3 pounds for 1 coin", 203, withBox(1).buy(1, 3));
        Twins.refused(() -> withBox(0), "1 pound for nothing", BAD_STATE, s -> s.buy(1, 1));
        Twins.refused(() -> withBox(0), "1 coal for nothing", BAD_STATE, s -> s.buy(0, 1));
    }

    static void halfTheCoinsForTops() {
        int[] pounds = {1, 2, 3, 4, 15, 16};
        int[] coins = {0, 1, 1, 2, 7, 8};
        for (int i = 0; i < pounds.length; i++) {
            CombersSociety society = Scenes.deadSickWell();
            int box = society.count(5);
            society.sell(pounds[i]);
            Check.same("coins for " + pounds[i] + " pounds", box + coins[i], society.count(5));
            Check.same("tops left", 16 - pounds[i], society.count(8));
        }
    }

    static void sellAnswersTheCoinsInTheBox() {
        CombersSociety society = Scenes.deadSickWell();
        Scenes.box(society, 0);
        Check.same("sell(1)", 0, society.sell(1));
        Check.same("sell(2)", 1, society.sell(2));
        Check.same("sell(13)", 7, society.sell(13));
    }

    static void sellFromOneToFiveHundred() {
        int box = Scenes.withManyTops().count(5);
        Check.same("sell(1)", box, Scenes.withManyTops().sell(1));
        Check.same("sell(500)", box + 250, Scenes.withManyTops().sell(500));
        int[] wrong = {0, 501, -1, LEAST, MOST};
        for (int pounds : wrong) {
            Twins.refused(Scenes::withManyTops, "sell(" + pounds + ")", BAD_ARGUMENT, s -> s.sell(pounds));
        }
    }

    static void sellOfMoreThanThereAre() {
        int box = Scenes.deadSickWell().count(5);
        Check.same("16 of 16", box + 8, Scenes.deadSickWell().sell(16));
        Twins.refused(Scenes::deadSickWell, "17 of 16", BAD_STATE, s -> s.sell(17));
        Twins.refused(Scenes::deadSickWell, "500 of 16", BAD_STATE, s -> s.sell(500));
        Twins.refused(CombersSociety::new, "1 of none", BAD_STATE, s -> s.sell(1));
    }

    private static CombersSociety crowdWithCoals(int coals) {
        CombersSociety society = Scenes.withCoals(coals);
        society.place(0, 2);
        society.place(society.join(3, 9), 0);
        int[] skills = {4, 5, 3, 9};
        for (int skill : skills) {
            society.place(society.join(skill, 9), 1);
        }
        return society;
    }

    /** Heat, members, who comb, and the pounds with so many coals; there is no wool. */
    static void potFacts() {
        int[][][] due = {
            {{0, 1, 1, 3}, {0, 4, 4, 0 + 1 + 0 + 5}, {9, 1, 1, 8}},
            {{0, 1, 1, 6}, {0, 4, 4, 0 + 1 + 0 + 5}, {9, 1, 1, 8}},
            {{0, 1, 1, 6}, {0, 4, 4, 3 + 4 + 2 + 8}, {9, 1, 1, 8}},
            {{0, 1, 1, 6}, {0, 4, 4, 3 + 4 + 2 + 8}, {9, 1, 1, 10}}
        };
        for (int coals = 0; coals <= 3; coals++) {
            for (int pot = 0; pot <= 2; pot++) {
                for (int what = 0; what <= 3; what++) {
                    int many = coals;
                    int one = pot;
                    int which = what;
                    String call = "pot(" + one + ", " + which + ") with " + many + " coals";
                    Twins.unchanged(() -> crowdWithCoals(many), call, due[many][one][which], s -> s.pot(one, which));
                }
            }
        }
        int[] sick = {3, 1, 0, 0};
        for (int what = 0; what <= 3; what++) {
            Check.same("pot(0, " + what + ") with a sick one", sick[what], Scenes.deadSickWell().pot(0, what));
        }
    }

    static void potNowhereOrOfNothing() {
        Check.same("pot(0, 0)", 3, Scenes.deadSickWell().pot(0, 0));
        Check.same("pot(2, 3)", 0, Scenes.deadSickWell().pot(2, 3));
        int[] pots = {-1, 3, LEAST, MOST};
        for (int pot : pots) {
            Twins.refused(Scenes::deadSickWell, "pot(" + pot + ", 0)", BAD_INDEX, s -> s.pot(pot, 0));
        }
        int[] whats = {-1, 4, LEAST, MOST};
        for (int what : whats) {
            Twins.refused(Scenes::deadSickWell, "pot(0, " + what + ")", BAD_INDEX, s -> s.pot(0, what));
        }
    }

    static void countFromZeroToTwelve() {
        // 8 pounds each: 4 coins each; sick pay 5; dues 1; the funeral 12, then 14, 1 and 1 coins come in.
        int[] due = {1, 3, 1, 1, 1, 60 - 5 + 1 - 12 + 16, 29, 184, 16, 18 + 8, 0, 5, 12};
        for (int what = 0; what <= 12; what++) {
            int which = what;
            Twins.unchanged(Scenes::deadSickWell, "count(" + which + ")", due[which], s -> s.count(which));
        }
        Check.same("marks of all", 3, Scenes.withMarks(3).count(10));
    }

    static void countOfNothing() {
        Check.same("count(0)", 1, Scenes.deadSickWell().count(0));
        Check.same("count(12)", 12, Scenes.deadSickWell().count(12));
        int[] whats = {-1, 13, LEAST, MOST};
        for (int what : whats) {
            Twins.refused(Scenes::deadSickWell, "count(" + what + ")", BAD_INDEX, s -> s.count(what));
        }
    }
}
