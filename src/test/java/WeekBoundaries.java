/** Boundaries that the eight steps of a week name. */
final class WeekBoundaries {
    private WeekBoundaries() {
    }

    private static void heats(String call, CombersSociety society, int... due) {
        for (int pot = 0; pot < due.length; pot++) {
            Check.same("heat of the pot " + pot + " " + call, due[pot], society.pot(pot, 0));
        }
    }

    static void firesFromPotZeroOn() {
        int[][] heats = {{0, 0, 7}, {3, 0, 7}, {3, 3, 7}, {3, 3, 9}};
        for (int coals = 0; coals < heats.length; coals++) {
            CombersSociety society = Scenes.withCoals(coals);
            society.place(0, 2);
            society.place(society.join(1, 9), 1);
            society.place(society.join(1, 9), 0);
            society.pass(1);
            heats("with " + coals + " coals", society, heats[coals]);
            Check.same("coals left of " + coals, 0, society.count(6));
        }
    }

    static void fireNeedsSomebodyAndACoal() {
        CombersSociety last = Scenes.withCoals(1);
        last.place(last.join(1, 9), 0);
        last.pass(1);
        Check.same("the last coal is burnt", 0, last.count(6));
        Check.same("heat of it", 3, last.pot(0, 0));
        last.pass(1);
        Check.same("no coal less", 0, last.count(6));
        Check.same("no fire", 1, last.pot(0, 0));
        CombersSociety sick = Scenes.deadSickWell();
        Check.same("one coal for two who comb", 29, sick.count(6));
        sick.pass(1);
        Check.same("none for the sick and for the well one at no pot", 29, sick.count(6));
        Check.same("no fire of the sick", 1, sick.pot(0, 0));
    }

    static void threeMoreHeatUpToNine() {
        CombersSociety society = Check.with(1, 20);
        society.place(0, 0);
        int[] from0 = {3, 6, 9, 9};
        for (int heat : from0) {
            society.pass(1);
            heats("with a fire", society, heat);
        }
        society.place(0, -1);
        society.pass(2);
        society.place(0, 0);
        int[] from5 = {8, 9};
        for (int heat : from5) {
            society.pass(1);
            heats("with a fire from 5 on", society, heat);
        }
    }

    static void twoLessHeatDownToZero() {
        CombersSociety society = Check.with(1, 20);
        society.place(0, 0);
        society.pass(2);
        society.place(0, 1);
        society.pass(1);
        society.place(0, -1);
        int[][] heats = {{2, 1}, {0, 0}, {0, 0}};
        heats("before", society, 4, 3);
        for (int[] due : heats) {
            society.pass(1);
            heats("without a fire", society, due);
        }
    }

    static void leastAndMostPounds() {
        CombersSociety least = Scenes.withCoals(0);
        least.buy(1, 30);
        least.place(least.join(1, 9), 0);
        least.pass(1);
        Check.same("skill 1 and no heat", 201, least.count(8));
        CombersSociety most = Check.with(9, 20);
        most.place(0, 0);
        most.pass(3);
        Check.same("skill 9 and heats 3, 6 and 9", 12 + 15 + 18, most.count(8));
        most.pass(1);
        Check.same("heat 9 at most", 12 + 15 + 18 + 18, most.count(8));
    }

    static void lessForEachBeyondTheSecond() {
        int[] each = {0, 8, 8, 6, 4};
        for (int many = 1; many <= 4; many++) {
            CombersSociety society = Check.with(5, 9, 5, 9, 5, 9, 5, 9);
            society.setDues(0);
            for (int i = 0; i < many; i++) {
                society.place(i, 0);
            }
            society.pass(1);
            Check.same("tops of " + many, many * each[many], society.count(8));
            for (int i = 0; i < many; i++) {
                Check.same("coins of " + i + " of " + many, 10 + each[many] / 2, society.told(i, 2));
            }
        }
    }

    static void theSickAreNoCrowd() {
        CombersSociety society = Check.with(5, 9, 5, 9, 5, 9, 5, 9);
        society.place(0, 0);
        society.setFever(0, 0);
        society.pass(1);
        society.place(1, 0);
        society.place(2, 0);
        society.place(3, 1);
        society.pass(1);
        Check.same("two who comb beside a sick one, one elsewhere", 8 + 11 + 11 + 8, society.count(8));
    }

    static void poundsAtLeastZero() {
        CombersSociety society = Scenes.withCoals(0);
        society.buy(1, 30);
        int[] skills = {3, 4, 5, 9};
        int[] coins = {10, 10, 10, 12};
        for (int skill : skills) {
            society.place(society.join(skill, 9), 0);
        }
        society.pass(1);
        Check.same("3 and 4 are less than nothing and nothing", 200 + 1 + 5, society.count(8));
        Check.same("wool", 30 - 1 - 5, society.count(7));
        for (int i = 0; i < skills.length; i++) {
            Check.same("coins with the skill " + skills[i], coins[i], society.told(1 + i, 2));
        }
    }

    /** At the pot 1 with the heat 9, and 11 pounds of wool left. */
    private static CombersSociety withElevenPounds(int skill) {
        CombersSociety society = Check.with(9, 20, 9, 20, 9, 20, skill, 20);
        for (int i = 0; i < 3; i++) {
            society.place(i, i);
        }
        society.pass(4);
        for (int i = 0; i < 3; i++) {
            society.place(i, -1);
        }
        society.place(3, 1);
        return society;
    }

    static void asFarAsThereIsWool() {
        int[] pounds = {0, 10, 11, 11};
        int[] coins = {0, 5, 5, 5};
        for (int skill = 1; skill <= 3; skill++) {
            CombersSociety society = withElevenPounds(skill);
            Check.same("wool", 11, society.count(7));
            Check.same("coins for " + pounds[skill] + " pounds", coins[skill], society.earns(3));
            society.pass(1);
            Check.same("wool left", 11 - pounds[skill], society.count(7));
            Check.same("tops", 189 + pounds[skill], society.count(8));
            society.pass(1);
            Check.same("all wool is combed", 0, society.count(7));
            Check.same("all tops", 200, society.count(8));
        }
    }

    static void halfTheCoinsNotOutOfTheBox() {
        int[] coins = {2, 2, 3, 3};
        for (int i = 0; i < coins.length; i++) {
            CombersSociety society = Check.with(1 + i, 9);
            society.setDues(0);
            society.place(0, 0);
            Scenes.box(society, 0);
            Check.same("the empty box", 0, society.pass(1));
            Check.same("coins for " + (4 + i) + " pounds", 10 + coins[i], society.told(0, 2));
        }
        CombersSociety one = withElevenPounds(1);
        one.setDues(0);
        one.pass(1);
        int purse = one.told(3, 2);
        one.pass(1);
        Check.same("1 pound is no coin", purse, one.told(3, 2));
    }

    static void feverOfThoseWhoComb() {
        CombersSociety society = Check.with(1, 9, 1, 9, 1, 9, 1, 9);
        for (int i = 0; i < 3; i++) {
            society.place(i, i);
        }
        society.setFever(0, 1);
        society.pass(1);
        int[] status = {0, 1, 0, 0};
        for (int i = 0; i < status.length; i++) {
            Check.same("status of " + i, status[i], society.told(i, 6));
        }
        Check.same("who falls sick has combed", 3 * 4, society.count(8));
        society.setFever(1, 1);
        society.pass(1);
        Check.same("the sick one does not fall sick once more", 2, society.told(1, 7));
        society.setFever(2, -1);
        society.pass(1);
        Check.same("no fever, nobody more", 1, society.count(3));
    }

    static void weeksLeftByAQuarter() {
        int[] strengths = {3, 4, 7, 8, 11, 12, 15, 16, 19, 20};
        int[] weeks = {6, 5, 5, 4, 4, 3, 3, 2, 2, 1};
        for (int i = 0; i < strengths.length; i++) {
            CombersSociety society = Scenes.beforeFever(strengths[i]);
            society.pass(1);
            String who = " with the strength " + strengths[i];
            Check.same("weeks left" + who, weeks[i] - 1, society.told(0, 7));
            Check.same("weeks so far" + who, weeks[i] == 1 ? 0 : 1, society.told(0, 8));
        }
    }

    static void oneStrengthLessAtOnce() {
        CombersSociety society = Scenes.beforeFever(16);
        society.pass(1);
        Check.same("who fell sick just now", 15, society.told(0, 1));
        society.pass(1);
        Check.same("who was sick", 14, society.told(0, 1));
        Check.same("well then", 0, society.told(0, 6));
        society.pass(1);
        Check.same("who is well", 14, society.told(0, 1));
    }

    static void deadWithoutStrength() {
        CombersSociety one = Scenes.beforeFever(1);
        one.pass(1);
        Check.same("1 less 1: dead", 2, one.told(0, 6));
        CombersSociety two = Scenes.beforeFever(2);
        two.pass(1);
        Check.same("2 less 1: sick", 1, two.told(0, 6));
        Check.same("strength", 1, two.told(0, 1));
        two.pass(1);
        Check.same("dead a week later", 2, two.told(0, 6));
        CombersSociety five = Scenes.beforeFever(5);
        five.pass(4);
        Check.same("one week and the strength 1 left", 1, five.told(0, 1) * five.told(0, 7));
        five.pass(1);
        Check.same("dead, not well, in the last week", 2, five.told(0, 6));
        Check.same("without sick pay for it", 5 + 5 + 5 + 2, five.count(11));
    }

    static void oneWeekMoreSoFarOneLessLeft() {
        CombersSociety society = Scenes.beforeFever(9);
        int[] left = {3, 2, 1};
        int[] soFar = {1, 2, 3};
        for (int i = 0; i < left.length; i++) {
            society.pass(1);
            Check.same("weeks left", left[i], society.told(0, 7));
            Check.same("weeks so far", soFar[i], society.told(0, 8));
        }
    }

    static void sickPayWithFewerThanThreeUnpaidWeeks() {
        int[] paid = {5, 5, 5, 0, 0};
        for (int unpaid = 0; unpaid <= 4; unpaid++) {
            CombersSociety society = Check.with(1, 20, 1, 9);
            society.give(0, 1, 10);
            for (int week = 0; week < unpaid; week++) {
                society.pass(1);
            }
            society.place(0, 0);
            society.setFever(unpaid, 0);
            Check.same("unpaid weeks", unpaid, society.told(0, 4));
            society.pass(1);
            Check.same("sick pay with " + unpaid + " unpaid weeks", paid[unpaid], society.count(11));
        }
    }

    static void sickPayOrAllThatTheBoxHas() {
        int[] boxes = {6, 5, 4, 1, 0};
        int[] paid = {5, 5, 4, 1, 0};
        for (int i = 0; i < boxes.length; i++) {
            CombersSociety society = Scenes.beforeFever(9);
            Scenes.box(society, boxes[i]);
            society.pass(1);
            Check.same("sick pay of " + boxes[i] + " coins", paid[i], society.count(11));
            Check.same("into the purse", 10 + 2 + paid[i], society.told(0, 2));
            Check.same("out of the box", boxes[i] - paid[i], society.count(5));
        }
        int[] laterBoxes = {3, 2, 1, 0};
        int[] laterPaid = {2, 2, 1, 0};
        for (int i = 0; i < laterBoxes.length; i++) {
            CombersSociety society = Scenes.beforeFever(7);
            society.pass(3);
            Scenes.box(society, laterBoxes[i]);
            society.pass(1);
            Check.same("sick pay of " + laterBoxes[i] + " coins", 15 + laterPaid[i], society.count(11));
            Check.same("out of the box", laterBoxes[i] - laterPaid[i], society.count(5));
        }
    }

    static void fiveCoinsForThreeWeeks() {
        CombersSociety society = Scenes.beforeFever(7);
        int[] paid = {5, 5, 5, 2, 2, 0};
        for (int week = 0; week < paid.length; week++) {
            Check.same("out of the box in the week " + week, -paid[week], society.pass(1));
        }
    }

    static void wellWithNoWeekLeft() {
        CombersSociety one = Scenes.beforeFever(20);
        one.pass(1);
        Check.same("one week, and well", 0, one.told(0, 6));
        Check.same("with sick pay for it", 5, one.count(11));
        CombersSociety two = Scenes.beforeFever(19);
        two.pass(1);
        Check.same("one week left", 1, two.told(0, 6));
        two.pass(1);
        Check.same("none left", 0, two.told(0, 6));
        Check.same("none so far then", 0, two.told(0, 8));
    }

    static void duesOfTheWell() {
        CombersSociety society = Check.with(1, 1, 1, 19, 1, 9);
        society.place(1, 0);
        society.setFever(0, 0);
        Check.same("two of three are well", 2 - 5, society.pass(1));
        Check.same("the sick one pays none", 10 + 2 + 5, society.told(1, 2));
        Check.same("who got well pays", 3 - 5, society.pass(1));
        Check.same("the purse", 17 + 5 - 1, society.told(1, 2));
        CombersSociety poor = Check.with(1, 19, 1, 9);
        poor.give(0, 1, 10);
        poor.place(0, 0);
        poor.setDues(3);
        poor.setFever(0, 0);
        Scenes.box(poor, 0);
        poor.pass(1);
        Check.same("no week unpaid more while sick", 0, poor.told(0, 4));
        CombersSociety dead = Scenes.deadSickWell();
        dead.place(1, -1);
        Scenes.purse(dead, 2, 1, 0);
        dead.setFever(1, 0);
        dead.pass(1);
        Check.same("the dead have no unpaid weeks", 0, dead.told(0, 4));
        Check.same("the well one has", 1, dead.told(2, 4));
    }

    static void duesWithAsManyCoins() {
        for (int dues = 0; dues <= 3; dues++) {
            CombersSociety society = Check.with(1, 9, 1, 9);
            society.setDues(3);
            Scenes.purse(society, 0, 1, 0);
            society.pass(1);
            society.setDues(dues);
            Scenes.purse(society, 0, 1, dues);
            Check.same("an unpaid week before", 1, society.told(0, 4));
            society.pass(1);
            Check.same("the last coins are paid", 0, society.told(0, 2));
            Check.same("no unpaid weeks", 0, society.told(0, 4));
            if (dues > 0) {
                Scenes.purse(society, 0, 1, dues - 1);
                society.pass(1);
                Check.same("a coin too few stays", dues - 1, society.told(0, 2));
                Check.same("an unpaid week", 1, society.told(0, 4));
            }
        }
    }

    static void unpaidWeeksAtMostNine() {
        CombersSociety society = Check.with(1, 9, 1, 9);
        society.give(0, 1, 10);
        society.pass(8);
        Check.same("8", 8, society.told(0, 4));
        society.pass(1);
        Check.same("9", 9, society.told(0, 4));
        society.pass(1);
        Check.same("9 at most", 9, society.told(0, 4));
    }

    static void drinksWithFewerThanTwelveMarks() {
        int[] then = {1, 2, 12, 12};
        int[] marks = {0, 1, 11, 12};
        for (int i = 0; i < marks.length; i++) {
            CombersSociety society = Scenes.withMarks(marks[i]);
            Check.same("marks", marks[i], society.told(0, 3));
            society.pass(4);
            Check.same("marks behind a club night with " + marks[i], then[i], society.told(0, 3));
        }
        CombersSociety sick = Scenes.beforeFever(9);
        sick.setFever(0, -1);
        sick.setFever(3, 0);
        sick.pass(3);
        Scenes.purse(sick, 0, sick.join(1, 9), 0);
        sick.pass(1);
        Check.same("the sick drink nothing", 0, sick.told(0, 3));
        Check.same("and pay nothing", 5 + 5, sick.told(0, 2));
    }

    static void oneMarkAndAnEighth() {
        int[] coins = {0, 1, 7, 8, 15, 16, 20};
        int[] marks = {1, 1, 1, 2, 2, 3, 3};
        for (int i = 0; i < coins.length; i++) {
            CombersSociety society = Scenes.withMarks(0);
            Scenes.purse(society, 0, 1, coins[i]);
            society.pass(4);
            int paid = coins[i] - society.told(0, 2);
            Check.same("marks for " + coins[i] + " coins", marks[i], paid + society.told(0, 3));
        }
    }

    static void marksBeyondTwelve() {
        CombersSociety society = Scenes.withMarks(11);
        Scenes.purse(society, 0, society.join(1, 9), 8);
        society.pass(4);
        Check.same("13 marks less 8 coins", 5, society.told(0, 3));
        CombersSociety full = Scenes.withMarks(12);
        Scenes.purse(full, 0, full.join(1, 9), 8);
        full.pass(4);
        Check.same("12 marks less 8 coins", 4, full.told(0, 3));
    }

    static void marksPaidAsFarAsCoinsGo() {
        int[] coins = {0, 2, 3, 4};
        int[] marks = {3, 1, 0, 0};
        int[] left = {0, 0, 0, 1};
        for (int i = 0; i < coins.length; i++) {
            CombersSociety society = Scenes.withMarks(2);
            Scenes.purse(society, 0, 1, coins[i]);
            int purses = society.count(9);
            int gain = society.pass(4);
            Check.same("3 marks less " + coins[i] + " coins", marks[i], society.told(0, 3));
            Check.same("the purse", left[i], society.told(0, 2));
            Check.same("all that the purses lose is the box's", purses - society.count(9), gain);
        }
        CombersSociety first = Scenes.withMarks(0);
        Scenes.purse(first, 0, 1, 1);
        first.pass(4);
        Check.same("1 mark less 1 coin", 0, first.told(0, 3));
        Check.same("the purse", 0, first.told(0, 2));
    }

    static void oneStrengthMoreUpToTwenty() {
        int[] strengths = {1, 18, 19, 20};
        int[] then = {2, 19, 20, 20};
        for (int i = 0; i < strengths.length; i++) {
            CombersSociety society = Check.with(1, strengths[i]);
            society.pass(3);
            Check.same("before", strengths[i], society.told(0, 1));
            society.pass(1);
            Check.same("behind a club night", then[i], society.told(0, 1));
        }
        CombersSociety sick = Scenes.beforeFever(7);
        sick.pass(4);
        Check.same("none for the sick", 3, sick.told(0, 1));
    }

    static void funeralsOfThisWeek() {
        CombersSociety society = Check.with(1, 1, 1, 1, 1, 2, 1, 9);
        for (int i = 0; i < 3; i++) {
            society.place(i, i);
        }
        society.setFever(0, 0);
        society.setFever(1, 2);
        int[] paid = {12, 12, 24, 24};
        for (int week = 0; week < paid.length; week++) {
            society.pass(1);
            Check.same("paid for funerals behind the week " + week, paid[week], society.count(12));
        }
    }

    /** Two die in one week; the purse of the first one pays for the funeral of the second one. */
    static void oneFuneralBehindTheOther() {
        CombersSociety society = Check.with(1, 1, 1, 1, 1, 9);
        society.setDues(0);
        society.place(0, 0);
        society.place(1, 0);
        society.setFever(0, 0);
        Scenes.purse(society, 0, 2, 3);
        Scenes.box(society, 0);
        society.pass(1);
        // The first leaves 3 and 2 coins, and the third gives 1: 6 are paid for the second.
        Check.same("paid for both", 0 + 6, society.count(12));
        Check.same("the purse of the third", 17 - 2, society.told(2, 2));
        Check.same("the box", 0 + 12 + 1, society.count(5));
    }

    static void twelveCoinsOrAllThatTheBoxHas() {
        int[] boxes = {13, 12, 11, 1, 0};
        int[] paid = {12, 12, 11, 1, 0};
        for (int i = 0; i < boxes.length; i++) {
            CombersSociety society = Scenes.beforeFever(1);
            Scenes.box(society, boxes[i]);
            Check.same("the box", 12 - paid[i], society.pass(1));
            Check.same("paid of " + boxes[i] + " coins", paid[i], society.count(12));
        }
    }

    static void purseOfTheDeadGoesIntoTheBox() {
        CombersSociety full = Scenes.beforeFever(1);
        Check.same("10 and 2 coins", -12 + 12, full.pass(1));
        Check.same("the purse", 0, full.told(0, 2));
        CombersSociety empty = Check.with(1, 2, 1, 9);
        empty.setDues(0);
        empty.place(0, 0);
        empty.setFever(0, 0);
        empty.pass(1);
        Scenes.purse(empty, 0, 1, 0);
        Check.same("an empty purse, and a coin of the other one", -12 + 0 + 1, empty.pass(1));
        CombersSociety one = Check.with(1, 2, 1, 9);
        one.setDues(0);
        one.place(0, 0);
        one.setFever(0, 0);
        one.pass(1);
        Scenes.purse(one, 0, 1, 1);
        Check.same("one coin, and a coin of the other one", -12 + 1 + 1, one.pass(1));
    }

    static void aCoinOfEachOneWhoHasOne() {
        int[] coins = {0, 1, 2};
        int[] left = {0, 0, 1};
        for (int i = 0; i < coins.length; i++) {
            CombersSociety society = Check.with(1, 1, 1, 9, 1, 9);
            society.setDues(0);
            society.place(0, 0);
            society.setFever(0, 0);
            Scenes.purse(society, 1, 2, coins[i]);
            Check.same("the box", -12 + 12 + coins[i] - left[i] + 1, society.pass(1));
            Check.same("left of " + coins[i] + " coins", left[i], society.told(1, 2));
        }
        CombersSociety sick = Scenes.deadSickWell();
        Check.same("the sick pay too", 10 + 4 + 5 - 1, sick.told(1, 2));
    }

    static void theWeekIsOneGreater() {
        CombersSociety society = Scenes.deadSickWell();
        Check.same("behind the week 0", 1, society.count(0));
        society.pass(1);
        Check.same("behind the week 1", 2, society.count(0));
        society.pass(60);
        Check.same("behind 60 more", 62, society.count(0));
    }
}
