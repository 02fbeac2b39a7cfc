/** Promise 14: pass, step by step as the terms tell a week. */
public final class WeeksTest {
    public static void main(String[] args) {
        weeks();
        fire();
        combing();
        combingShortOfWool();
        weeksOfSickness();
        feverOnlyWhereSomebodyCombs();
        feverComesBackEveryEightWeeks();
        sickPay();
        noSickPayWithThreeUnpaidWeeks();
        sickPayOutOfAnEmptyBox();
        dues();
        duesOfWhoGotWell();
        clubNight();
        marksBeyondTwelve();
        clubNightOfTheSick();
        funeral();
        funeralPaidWithTheLastCoin();
        funeralsOutOfASmallBox();
        Check.end();
    }

    private static void weeks() {
        CombersSociety society = new CombersSociety();
        int[] wrong = {-1, 0, 61, Integer.MIN_VALUE, Integer.MAX_VALUE};
        for (int weeks : wrong) {
            Check.refuses(society, "pass(" + weeks + ")", IllegalArgumentException.class, () -> society.pass(weeks));
        }
        Check.same("pass(60) of nobody", 0, society.pass(60));
        Check.same("pass(1) of nobody", 0, society.pass(1));
        Check.same("the week", 61, society.count(0));
        society.setDues(3);
        society.join(1, 9);
        Check.same("dues of a week", 3, society.pass(1));
        Check.same("dues of two weeks, and a mark", 3 + 3 + 1, society.pass(3));
    }

    private static void fire() {
        CombersSociety society = Check.with(5, 9, 5, 9);
        society.place(0, 1);
        int[] heats = {3, 6, 9, 9};
        for (int heat : heats) {
            society.pass(1);
            Check.same("heat with a fire", heat, society.pot(1, 0));
        }
        Check.same("coals", 26, society.count(6));
        society.place(0, -1);
        int[] colder = {7, 5, 3, 1, 0, 0};
        for (int heat : colder) {
            society.pass(1);
            Check.same("heat without a fire", heat, society.pot(1, 0));
        }
        Check.same("coals", 26, society.count(6));
        society.place(0, 1);
        society.place(1, 1);
        society.setFever(2, 1);
        society.pass(1);
        Check.same("one coal for both", 25, society.count(6));
        Check.same("heat", 3, society.pot(1, 0));
        society.pass(1);
        Check.same("the sick have no fire", 25, society.count(6));
        Check.same("heat", 1, society.pot(1, 0));
    }

    private static void combing() {
        CombersSociety society = Check.with(1, 9, 2, 9, 9, 9, 8, 9);
        for (int i = 0; i < 4; i++) {
            society.place(i, 0);
        }
        int gain = society.pass(1);
        Check.same("the coins are not the box's", 4, gain);
        // With heat 3 and less 4: 0, 1, 8 and 7 pounds.
        int[] coins = {9, 9, 13, 12};
        for (int i = 0; i < 4; i++) {
            Check.same("coins of " + i, coins[i], society.told(i, 2));
        }
        Check.same("wool", 200 - 16, society.count(7));
        Check.same("tops", 16, society.count(8));
        society.place(0, 1);
        society.place(1, 1);
        society.pass(1);
        // 4 and 5 at heat 3; 15 and 14 at heat 6.
        int[] then = {10, 10, 19, 18};
        for (int i = 0; i < 4; i++) {
            Check.same("coins of " + i, then[i], society.told(i, 2));
        }
        Check.same("tops", 16 + 38, society.count(8));
    }

    private static void combingShortOfWool() {
        CombersSociety society = Check.with(9, 9, 9, 9, 9, 9);
        society.setDues(0);
        society.place(0, 2);
        society.place(1, 0);
        society.place(2, 1);
        society.pass(3);
        // 12, 15 and 18 pounds each: 65 of 200 are left, then 18 each.
        Check.same("wool", 65, society.count(7));
        society.pass(1);
        Check.same("wool", 11, society.count(7));
        int first = society.told(0, 2);
        int second = society.told(1, 2);
        society.pass(1);
        Check.same("the first gets what is left", first + 5, society.told(0, 2));
        Check.same("the second gets nothing", second, society.told(1, 2));
        Check.same("wool", 0, society.count(7));
        Check.same("tops", 200, society.count(8));
        society.buy(1, 20);
        int third = society.told(2, 2);
        society.pass(1);
        Check.same("18 to the first", first + 14, society.told(0, 2));
        Check.same("2 to the second", second + 1, society.told(1, 2));
        Check.same("none to the third", third, society.told(2, 2));
    }

    private static void weeksOfSickness() {
        int[] strengths = {20, 19, 16, 15, 12, 11, 8, 7, 4, 3};
        int[] weeks = {1, 2, 2, 3, 3, 4, 4, 5, 5, 6};
        for (int i = 0; i < strengths.length; i++) {
            CombersSociety society = Check.with(1, strengths[i]);
            society.place(0, 0);
            society.setFever(0, 0);
            society.pass(1);
            String who = " of one with the strength " + strengths[i];
            Check.same("weeks left" + who, weeks[i] - 1, society.told(0, 7));
            Check.same("weeks so far" + who, weeks[i] == 1 ? 0 : 1, society.told(0, 8));
            Check.same("strength" + who, strengths[i] - 1, society.told(0, 1));
            Check.same("sick" + who, weeks[i] == 1 ? 0 : 1, society.told(0, 6));
        }
        for (int strength = 1; strength <= 3; strength++) {
            CombersSociety society = Check.with(1, strength);
            society.place(0, 0);
            society.setFever(0, 0);
            for (int week = 1; week < strength; week++) {
                society.pass(1);
                Check.same("still sick", 1, society.told(0, 6));
            }
            society.pass(1);
            Check.same("dead", 2, society.told(0, 6));
            Check.same("at no pot", -1, society.told(0, 5));
        }
        CombersSociety society = Check.with(1, 5);
        society.place(0, 0);
        society.setFever(0, 0);
        society.pass(4);
        Check.same("with the strength 1 left", 1, society.told(0, 6));
        society.pass(1);
        Check.same("dead in the last week of the sickness", 2, society.told(0, 6));
    }

    private static void feverOnlyWhereSomebodyCombs() {
        CombersSociety society = Check.with(1, 9, 1, 9, 1, 9);
        society.place(0, 0);
        society.place(1, 1);
        society.setFever(0, 1);
        society.pass(1);
        Check.same("at another pot", 0, society.told(0, 6));
        Check.same("at the pot", 1, society.told(1, 6));
        Check.same("at none", 0, society.told(2, 6));
        society.setFever(1, 1);
        society.pass(1);
        Check.same("the sick one does not fall sick again", 2, society.told(1, 7));
        Check.same("two weeks so far", 2, society.told(1, 8));
        society.setFever(2, -1);
        society.setFever(3, 2);
        society.pass(2);
        Check.same("nobody else", 3, society.count(2));
    }

    private static void feverComesBackEveryEightWeeks() {
        CombersSociety society = Check.with(1, 20);
        society.place(0, 2);
        society.setFever(7, 2);
        society.pass(7);
        Check.same("no sick pay in 7 weeks", 0, society.count(11));
        society.pass(1);
        Check.same("in the week 7", 5, society.count(11));
        society.pass(7);
        Check.same("not before", 5, society.count(11));
        society.pass(1);
        Check.same("in the week 15", 10, society.count(11));
    }

    private static void sickPay() {
        CombersSociety society = Check.with(1, 7);
        society.place(0, 0);
        society.setFever(0, 0);
        int[] paid = {5, 10, 15, 17, 19, 19};
        int[] status = {1, 1, 1, 1, 0, 0};
        int[] gain = {-5, -5, -5, -2, -1, 1};
        for (int week = 0; week < paid.length; week++) {
            Check.same("gain of the box in the week " + week, gain[week], society.pass(1));
            Check.same("sick pay behind the week " + week, paid[week], society.count(11));
            Check.same("status behind the week " + week, status[week], society.told(0, 6));
        }
        Check.same("strength", 2, society.told(0, 1));
        Check.same("no weeks left", 0, society.told(0, 7));
        Check.same("no weeks so far", 0, society.told(0, 8));
    }

    private static void noSickPayWithThreeUnpaidWeeks() {
        int[] unpaid = {2, 3};
        int[] due = {5, 0};
        for (int i = 0; i < unpaid.length; i++) {
            CombersSociety society = Check.with(1, 19, 1, 9);
            society.setDues(1);
            society.give(0, 1, 10);
            society.pass(unpaid[i]);
            Check.same("unpaid weeks", unpaid[i], society.told(0, 4));
            society.place(0, 0);
            society.setFever(unpaid[i], 0);
            society.pass(1);
            Check.same("sick pay with " + unpaid[i], due[i], society.count(11));
            Check.same("sick", 1, society.told(0, 6));
            Check.same("the sick have no week unpaid more", unpaid[i], society.told(0, 4));
        }
    }

    private static void sickPayOutOfAnEmptyBox() {
        CombersSociety society = Check.with(1, 9, 1, 9, 1, 9);
        for (int i = 0; i < 3; i++) {
            society.place(i, i);
        }
        society.setFever(0, 1);
        society.setFever(1, 0);
        society.buy(0, 57);
        society.setDues(0);
        Check.same("all that the box has", -3, society.pass(1));
        Check.same("sick pay", 3, society.count(11));
        Check.same("the purse", 12 + 3, society.told(1, 2));
        Check.same("nothing to pay", 0, society.pass(1));
        Check.same("the box", 0, society.count(5));
        Check.same("sick without pay", 2, society.count(3));
    }

    private static void dues() {
        CombersSociety society = Check.with(1, 9, 1, 9);
        society.setDues(3);
        society.give(0, 1, 5);
        Check.same("both pay", 6, society.pass(1));
        Check.same("the purse", 2, society.told(0, 2));
        Check.same("one pays", 3, society.pass(1));
        Check.same("2 of 3 coins stay", 2, society.told(0, 2));
        Check.same("an unpaid week", 1, society.told(0, 4));
        society.give(1, 0, 1);
        society.pass(1);
        Check.same("paid with the last coins", 0, society.told(0, 2));
        Check.same("no unpaid weeks", 0, society.told(0, 4));
        society.pass(9);
        Check.same("9 unpaid weeks", 9, society.told(0, 4));
        society.pass(5);
        Check.same("9 at most", 9, society.told(0, 4));
        society.setDues(0);
        society.pass(1);
        Check.same("dues of 0 are paid", 0, society.told(0, 4));
    }

    private static void duesOfWhoGotWell() {
        CombersSociety society = Check.with(1, 20, 1, 12);
        society.place(0, 0);
        society.place(1, 0);
        society.setFever(0, 0);
        Check.same("the well one pays", 1 - 5 - 5, society.pass(1));
        Check.same("12 and 5 less 1", 16, society.told(0, 2));
        Check.same("12 and 5", 17, society.told(1, 2));
        Check.same("well", 0, society.told(0, 6));
    }

    private static void clubNight() {
        CombersSociety society = Check.with(1, 9, 1, 20, 1, 1);
        society.setDues(0);
        society.give(0, 1, 10);
        society.give(2, 1, 3);
        Check.same("three weeks without one", 0, society.pass(3));
        Check.same("no strength more", 9, society.told(0, 1));
        Check.same("1 and 2 of 23 coins, 0 of 7", 3 + 1, society.pass(1));
        Check.same("a mark without a coin", 1, society.told(0, 3));
        Check.same("the marks are paid", 0, society.told(1, 3));
        Check.same("23 less 3", 20, society.told(1, 2));
        Check.same("7 less 1", 6, society.told(2, 2));
        Check.same("strength", 10, society.told(0, 1));
        Check.same("at most 20", 20, society.told(1, 1));
        Check.same("strength", 2, society.told(2, 1));
        Check.same("not in the weeks 4 to 6", 0, society.pass(3));
        Check.same("1 and 2 of 20, 1 of 6", 4, society.pass(1));
        society.give(1, 0, 5);
        society.pass(4);
        // 2 marks and 1 more, of 5 coins: 3 are paid.
        Check.same("older marks are paid too", 0, society.told(0, 3));
        Check.same("the purse", 2, society.told(0, 2));
    }

    private static void marksBeyondTwelve() {
        CombersSociety society = Check.with(1, 1, 1, 9);
        society.setDues(0);
        society.give(0, 1, 10);
        society.pass(44);
        Check.same("11 club nights", 11, society.told(0, 3));
        Check.same("strength", 12, society.told(0, 1));
        society.pass(4);
        Check.same("12 marks", 12, society.told(0, 3));
        society.pass(12);
        Check.same("no more marks", 12, society.told(0, 3));
        Check.same("strength all the same", 16, society.told(0, 1));
        for (int i = 2; i < 12; i++) {
            society.join(1, 9);
            society.give(i, 0, 10);
        }
        Check.same("100 coins", 100, society.told(0, 2));
        society.pass(4);
        Check.same("12 marks are paid, and none drunk", 88, society.told(0, 2));
        Check.same("none left", 0, society.told(0, 3));
        society.pass(4);
        Check.same("1 and 11 marks", 76, society.told(0, 2));
    }

    private static void clubNightOfTheSick() {
        CombersSociety society = Check.with(1, 9, 1, 20);
        society.place(0, 0);
        society.place(1, 0);
        society.setDues(0);
        society.setFever(3, 0);
        society.pass(4);
        // Heats 3, 6, 9 and 9: 4, 7, 10 and 10 pounds, 2 + 3 + 5 + 5 coins, sick pay 5.
        Check.same("the sick one drinks nothing", 30, society.told(0, 2));
        Check.same("and has less strength", 9 - 1, society.told(0, 1));
        Check.same("who got well drinks 1 and 3", 26, society.told(1, 2));
        Check.same("and has 1 less and 1 more", 20, society.told(1, 1));
    }

    private static void funeral() {
        CombersSociety society = Check.with(1, 1, 1, 9, 1, 9, 1, 1);
        society.setDues(0);
        society.give(1, 0, 10);
        society.place(0, 0);
        society.place(2, 0);
        society.place(3, 0);
        society.setFever(0, 0);
        // 2 pounds and 1 coin each at the pot; sick pay 5 to 2; two funerals.
        int gain = -5 + (-12 + 21 + 1) + (-12 + 11 + 1);
        Check.same("the box", gain, society.pass(1));
        Check.same("the purse of a dead one", 0, society.told(0, 2));
        Check.same("without a coin", 0, society.told(1, 2));
        Check.same("a coin for each funeral", 10 + 1 + 5 - 2, society.told(2, 2));
        Check.same("the purse of a dead one", 0, society.told(3, 2));
        Check.same("funerals", 24, society.count(12));
        Check.same("dead", 2, society.count(4));
        society.pass(1);
        Check.same("nobody is buried twice", 24, society.count(12));
    }

    private static void funeralPaidWithTheLastCoin() {
        CombersSociety society = Check.with(1, 1, 1, 9, 1, 9);
        society.setDues(0);
        society.give(1, 2, 9);
        society.give(2, 0, 19);
        society.place(0, 0);
        society.setFever(0, 0);
        Check.same("29 and 2 of the dead one, 1 of another", -12 + 29 + 2 + 1, society.pass(1));
        Check.same("the last coin", 0, society.told(1, 2));
        Check.same("no coin", 0, society.told(2, 2));
    }

    private static void funeralsOutOfASmallBox() {
        CombersSociety society = Check.with(1, 1, 1, 1, 1, 9);
        society.setDues(0);
        society.give(0, 2, 10);
        society.place(0, 0);
        society.place(1, 0);
        society.setFever(0, 0);
        society.buy(0, 56);
        // 4 pounds and 2 coins each; the box has 4, then 2 + 1, and pays 3; 12 + 1 come in.
        Check.same("the box", -4 + 2 + 1 - 3 + 12 + 1, society.pass(1));
        Check.same("funerals", 4 + 3, society.count(12));
        Check.same("who lives", 18, society.told(2, 2));
    }
}
