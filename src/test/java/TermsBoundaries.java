import java.util.List;

/** Boundaries that "What it is" and the terms name, but for those of a week. */
final class TermsBoundaries {
    private static final Class<?> BAD_INDEX = IndexOutOfBoundsException.class;
    private static final Class<?> BAD_ARGUMENT = IllegalArgumentException.class;
    private static final Class<?> BAD_STATE = IllegalStateException.class;

    /** One call that must be refused, of a crowded society. */
    private record Refusal(String call, Class<?> due, Twins.Asked asked) {
    }

    private TermsBoundaries() {
    }

    static void lastOfTheCalls() {
        CombersSociety society = new CombersSociety();
        society.join(9, 20);
        for (int call = 2; call <= 511; call++) {
            society.pass(60);
        }
        Check.same("the 512th call", 510 * 60, society.count(0));
    }

    static void halvesAreCut() {
        int[] coins = {2, 2, 3, 3};
        for (int i = 0; i < coins.length; i++) {
            CombersSociety society = Check.with(i + 1, 9);
            society.place(0, 0);
            Check.same("half of " + (i + 4) + " pounds", coins[i], society.earns(0));
        }
    }

    static void timeStartsAtWeekZero() {
        CombersSociety society = Check.with(5, 9);
        Check.same("the week of a new one", 0, society.count(0));
        society.place(0, 0);
        society.setFever(0, 0);
        society.pass(1);
        Check.same("the coming week was 0", 1, society.count(3));
        Check.same("the week then", 1, society.count(0));
    }

    static void clubNightsByTheRemainder() {
        CombersSociety society = Scenes.withMarks(0);
        int marks = 0;
        for (int week = 0; week < 13; week++) {
            society.pass(1);
            if (week == 3 || week == 7 || week == 11) {
                marks++;
            }
            Check.same("marks behind the week " + week, marks, society.told(0, 3));
        }
    }

    static void storesAtFirst() {
        int[] stores = {60, 30, 200, 0};
        CombersSociety society = new CombersSociety();
        for (int i = 0; i < stores.length; i++) {
            Check.same("count(" + (5 + i) + ") at first", stores[i], society.count(5 + i));
        }
        Check.same("60 coins buy 60 coals more", 90, society.buy(0, 60));
        Twins.refused(CombersSociety::new, "61 coals for 60 coins", BAD_STATE, s -> s.buy(0, 61));
        Twins.refused(CombersSociety::new, "a sale without tops", BAD_STATE, s -> s.sell(1));
    }

    static void threePots() {
        CombersSociety society = Check.with(5, 9);
        for (int pot = 0; pot <= 2; pot++) {
            Check.same("members at the pot " + pot, 0, society.pot(pot, 1));
            society.place(0, pot);
            Check.same("and then", 1, society.pot(pot, 1));
        }
        Twins.refused(CombersSociety::new, "the pot -1", BAD_INDEX, s -> s.pot(-1, 1));
        Twins.refused(CombersSociety::new, "the pot 3", BAD_INDEX, s -> s.pot(3, 1));
    }

    static void heatFromZeroToNine() {
        CombersSociety society = Check.with(5, 9);
        Check.same("heat at first", 0, society.pot(1, 0));
        society.pass(1);
        Check.same("not below 0", 0, society.pot(1, 0));
        society.place(0, 1);
        society.pass(3);
        Check.same("up to 9", 9, society.pot(1, 0));
        society.pass(1);
        Check.same("not beyond 9", 9, society.pot(1, 0));
        society.place(0, -1);
        society.pass(4);
        Check.same("down to 1", 1, society.pot(1, 0));
        society.pass(1);
        Check.same("down to 0", 0, society.pot(1, 0));
        society.pass(1);
        Check.same("not below 0", 0, society.pot(1, 0));
    }

    static void twelveInAll() {
        CombersSociety society = Scenes.deadSickWell();
        for (int i = 3; i < 12; i++) {
            Check.same("the next number", i, society.join(5, 9));
        }
        Check.same("joined with the dead one", 12, society.count(1));
        Twins.refused(Scenes::crowded, "a 13th, with one of 12 dead", BAD_STATE, s -> s.join(5, 9));
    }

    static void numbersInOrderOfJoining() {
        CombersSociety society = new CombersSociety();
        for (int i = 0; i < 12; i++) {
            Check.same("the number", i, society.join(1 + i % 9, 20 - i));
        }
        for (int i = 0; i < 12; i++) {
            Check.same("skill of " + i, 1 + i % 9, society.told(i, 0));
            Check.same("strength of " + i, 20 - i, society.told(i, 1));
        }
    }

    static void skillFromOneToNine() {
        CombersSociety society = Check.with(1, 9, 9, 9);
        Check.same("the least skill", 1, society.told(0, 0));
        Check.same("the most skill", 9, society.told(1, 0));
        Twins.refused(CombersSociety::new, "the skill 0", BAD_ARGUMENT, s -> s.join(0, 9));
        Twins.refused(CombersSociety::new, "the skill 10", BAD_ARGUMENT, s -> s.join(10, 9));
    }

    static void strengthAtMostTwenty() {
        CombersSociety society = Check.with(1, 20, 1, 19);
        Check.same("20 at first", 20, society.told(0, 1));
        society.pass(4);
        Check.same("20 behind a club night", 20, society.told(0, 1));
        Check.same("19 and 1", 20, society.told(1, 1));
        society.pass(56);
        Check.same("20 still", 20, society.told(1, 1));
        Twins.refused(CombersSociety::new, "the strength 21", BAD_ARGUMENT, s -> s.join(1, 21));
    }

    static void tenCoinsAtFirst() {
        CombersSociety society = Check.with(1, 9, 1, 9);
        Check.same("coins at first", 10, society.told(0, 2));
        Check.same("all 10 are given", 0, society.give(0, 1, 10));
        Twins.refused(() -> Check.with(1, 9, 1, 9), "11 of 10 coins", BAD_STATE, s -> s.give(0, 1, 11));
    }

    static void noMarksAtFirst() {
        CombersSociety society = Check.with(1, 9);
        Check.same("marks at first", 0, society.told(0, 3));
        society.pass(3);
        Check.same("marks before the first club night", 0, society.told(0, 3));
        Scenes.purse(society, 0, society.join(1, 9), 0);
        society.pass(1);
        Check.same("marks behind it", 1, society.told(0, 3));
    }

    static void unpaidWeeksFromZeroToNine() {
        CombersSociety society = Check.with(1, 9, 1, 9);
        society.give(0, 1, 10);
        Check.same("unpaid weeks at first", 0, society.told(0, 4));
        for (int week = 1; week <= 12; week++) {
            society.pass(1);
            Check.same("unpaid weeks behind " + week, week < 9 ? week : 9, society.told(0, 4));
        }
    }

    static void atNoPotAtFirst() {
        CombersSociety society = Check.with(1, 9);
        Check.same("told at first", -1, society.told(0, 5));
        for (int pot = 0; pot <= 2; pot++) {
            Check.same("nobody at the pot " + pot, 0, society.pot(pot, 1));
        }
        Check.same("placed from none", -1, society.place(0, 0));
    }

    static void deadForGood() {
        CombersSociety society = Scenes.deadSickWell();
        Check.same("well at first", 0, society.told(society.join(1, 1), 6));
        int[] status = {2, 1, 0};
        for (int i = 0; i < status.length; i++) {
            Check.same("status of " + i, status[i], society.told(i, 6));
        }
        society.pass(60);
        Check.same("dead still", 2, society.told(0, 6));
        Check.same("without strength still", 0, society.told(0, 1));
        Check.same("well again", 0, society.told(1, 6));
    }

    static void fourAtEachPot() {
        for (int pot = 0; pot <= 2; pot++) {
            int which = pot;
            CombersSociety society = fourAt(which);
            Check.same("four at the pot", 4, society.pot(which, 1));
            Twins.refused(() -> fourAt(which), "a fifth at the pot " + which, BAD_STATE, s -> s.place(4, which));
            society.place(0, -1);
            Check.same("a fourth", -1, society.place(4, which));
        }
        Twins.refused(TermsBoundaries::fourSick, "a fifth beside the sick", BAD_STATE, s -> s.place(4, 0));
    }

    private static CombersSociety fourAt(int pot) {
        CombersSociety society = Check.with(5, 9, 5, 9, 5, 9, 5, 9, 5, 9);
        for (int i = 0; i < 4; i++) {
            society.place(i, pot);
        }
        return society;
    }

    private static CombersSociety fourSick() {
        CombersSociety society = fourAt(0);
        society.setFever(0, 0);
        society.pass(1);
        return society;
    }

    static void combsIfWellAndAtAPot() {
        CombersSociety society = Scenes.deadSickWell();
        Check.same("the sick one does not comb", 0, society.pot(0, 2));
        society.pass(1);
        Check.same("nor does the well one at none", 16, society.count(8));
        society.place(2, 0);
        Check.same("well and at the pot", 1, society.pot(0, 2));
        society.pass(1);
        // The heat went down from 3 to 1 and up to 4.
        Check.same("9 tops more", 25, society.count(8));
        society.place(2, -1);
        Check.same("at none again", 0, society.pot(0, 2));
    }

    static void sickStayAtThePot() {
        CombersSociety society = Check.with(5, 9);
        society.place(0, 1);
        society.setFever(0, 1);
        for (int week = 0; week < 3; week++) {
            society.pass(1);
            Check.same("sick", 1, society.told(0, 6));
            Check.same("at the pot still", 1, society.told(0, 5));
            Check.same("one is there", 1, society.pot(1, 1));
            Check.same("nobody combs there", 0, society.pot(1, 2));
            Check.same("no tops more", 8, society.count(8));
        }
        society.pass(1);
        Check.same("well", 0, society.told(0, 6));
        Check.same("combs there again", 1, society.pot(1, 2));
    }

    static void weeksOfSicknessOnlyOfTheSick() {
        CombersSociety society = Scenes.deadSickWell();
        int[] left = {0, 3, 0};
        int[] soFar = {0, 1, 0};
        for (int i = 0; i < 3; i++) {
            Check.same("weeks left of " + i, left[i], society.told(i, 7));
            Check.same("weeks so far of " + i, soFar[i], society.told(i, 8));
        }
        society.pass(2);
        Check.same("one week left", 1, society.told(1, 7));
        Check.same("three so far", 3, society.told(1, 8));
        society.pass(1);
        Check.same("none left when well again", 0, society.told(1, 7));
        Check.same("none so far when well again", 0, society.told(1, 8));
        CombersSociety dying = Scenes.beforeFever(2);
        dying.pass(1);
        Check.same("one week so far", 1, dying.told(0, 8));
        dying.pass(1);
        Check.same("none left when dead", 0, dying.told(0, 7));
        Check.same("none so far when dead", 0, dying.told(0, 8));
    }

    static void deadHaveNothingLeft() {
        CombersSociety society = Check.with(4, 1, 4, 9);
        society.give(0, 1, 10);
        society.pass(4);
        society.place(0, 1);
        society.setFever(4, 1);
        society.pass(1);
        // Strength, marks, unpaid weeks and pot; 7 pounds have brought 3 coins, which stay in the purse.
        int[] facts = {1, 3, 4, 5};
        int[] sick = {1, 1, 4, 1};
        int[] dead = {0, 0, 0, -1};
        for (int i = 0; i < facts.length; i++) {
            Check.same("told(0, " + facts[i] + ") of the sick one", sick[i], society.told(0, facts[i]));
        }
        society.pass(1);
        for (int i = 0; i < facts.length; i++) {
            Check.same("told(0, " + facts[i] + ") of the dead one", dead[i], society.told(0, facts[i]));
        }
    }

    static void duesOfOneCoinAtFirst() {
        CombersSociety society = Check.with(1, 9, 1, 9);
        Scenes.purse(society, 0, 1, 1);
        Check.same("two coins of dues", 2, society.pass(1));
        Check.same("the last coin is paid", 0, society.told(0, 2));
        Check.same("one coin of dues", 1, society.pass(1));
        Check.same("dues at first", 1, society.setDues(1));
    }

    static void feversByTheRemainderOfEight() {
        for (int week = 0; week < 8; week++) {
            CombersSociety society = Check.with(1, 20);
            society.place(0, 2);
            Check.same("no fever at first", -1, society.setFever(week, 2));
            int paid = 0;
            for (int i = 0; i < 17; i++) {
                society.pass(1);
                paid += i % 8 == week ? 5 : 0;
                Check.same("sick pay with a fever in " + week + " behind the week " + i, paid, society.count(11));
            }
        }
    }

    static void membersComeByTheirNumbers() {
        CombersSociety wool = Check.with(9, 9, 9, 9);
        wool.place(0, 1);
        wool.place(1, 0);
        wool.setDues(0);
        wool.pass(6);
        // 200 less 24, 30 and four times 36 pounds.
        Check.same("wool", 2, wool.count(7));
        int first = wool.told(0, 2);
        int second = wool.told(1, 2);
        wool.pass(1);
        Check.same("the first gets 2 pounds", first + 1, wool.told(0, 2));
        Check.same("the second gets none", second, wool.told(1, 2));
        CombersSociety box = Check.with(1, 9, 1, 9);
        box.place(0, 0);
        box.place(1, 0);
        box.setFever(0, 0);
        Scenes.box(box, 6);
        box.pass(1);
        Check.same("sick pay of the first", 10 + 2 + 5, box.told(0, 2));
        Check.same("what is left, of the second", 10 + 2 + 1, box.told(1, 2));
    }

    static void refusedCallsChangeNothing() {
        for (Refusal refusal : List.of(
                new Refusal("join(0, 9)", BAD_ARGUMENT, s -> s.join(0, 9)),
                new Refusal("join(9, 9)", BAD_STATE, s -> s.join(9, 9)),
                new Refusal("place(12, 0)", BAD_INDEX, s -> s.place(12, 0)),
                new Refusal("place(2, 3)", BAD_INDEX, s -> s.place(2, 3)),
                new Refusal("place(0, 2)", BAD_STATE, s -> s.place(0, 2)),
                new Refusal("place(2, 1)", BAD_STATE, s -> s.place(2, 1)),
                new Refusal("give(2, 12, 1)", BAD_INDEX, s -> s.give(2, 12, 1)),
                new Refusal("give(2, 3, 0)", BAD_ARGUMENT, s -> s.give(2, 3, 0)),
                new Refusal("give(2, 0, 1)", BAD_STATE, s -> s.give(2, 0, 1)),
                new Refusal("give(2, 3, 99)", BAD_STATE, s -> s.give(2, 3, 99)),
                new Refusal("settle(-1)", BAD_INDEX, s -> s.settle(-1)),
                new Refusal("settle(0)", BAD_STATE, s -> s.settle(0)),
                new Refusal("told(2, 9)", BAD_INDEX, s -> s.told(2, 9)))) {
            Twins.refused(Scenes::crowded, refusal.call(), refusal.due(), refusal.asked());
        }
        for (Refusal refusal : List.of(
                new Refusal("setFever(8, 0)", BAD_INDEX, s -> s.setFever(8, 0)),
                new Refusal("setFever(1, 3)", BAD_ARGUMENT, s -> s.setFever(1, 3)),
                new Refusal("setDues(4)", BAD_ARGUMENT, s -> s.setDues(4)),
                new Refusal("buy(2, 1)", BAD_INDEX, s -> s.buy(2, 1)),
                new Refusal("buy(0, 0)", BAD_ARGUMENT, s -> s.buy(0, 0)),
                new Refusal("buy(0, 11)", BAD_STATE, s -> s.buy(0, 11)),
                new Refusal("sell(0)", BAD_ARGUMENT, s -> s.sell(0)),
                new Refusal("sell(17)", BAD_STATE, s -> s.sell(17)),
                new Refusal("pot(1, 4)", BAD_INDEX, s -> s.pot(1, 4)),
                new Refusal("count(13)", BAD_INDEX, s -> s.count(13)),
                new Refusal("pass(61)", BAD_ARGUMENT, s -> s.pass(61)),
                new Refusal("foresee(61, 2)", BAD_ARGUMENT, s -> s.foresee(61, 2)),
                new Refusal("foresee(1, 1)", BAD_INDEX, s -> s.foresee(1, 1)),
                new Refusal("earns(12)", BAD_INDEX, s -> s.earns(12)),
                new Refusal("dies(12)", BAD_INDEX, s -> s.dies(12)),
                new Refusal("advise(12)", BAD_INDEX, s -> s.advise(12)),
                new Refusal("advise(0)", BAD_STATE, s -> s.advise(0)))) {
            Twins.refused(Scenes::crowded, refusal.call(), refusal.due(), refusal.asked());
        }
    }

    static void firstNamedExceptionIsThrown() {
        for (Refusal refusal : List.of(
                new Refusal("a 13th of the skill 10", BAD_ARGUMENT, s -> s.join(10, 9)),
                new Refusal("a 13th of the strength 0", BAD_ARGUMENT, s -> s.join(9, 0)),
                new Refusal("nobody to a full pot", BAD_INDEX, s -> s.place(12, 1)),
                new Refusal("a dead one to the pot 3", BAD_INDEX, s -> s.place(0, 3)),
                new Refusal("a dead one to the pot -2", BAD_INDEX, s -> s.place(0, -2)),
                new Refusal("nobody gives 0", BAD_INDEX, s -> s.give(12, 2, 0)),
                new Refusal("nobody gets 100", BAD_INDEX, s -> s.give(2, 12, 100)),
                new Refusal("nobody gives to the same", BAD_INDEX, s -> s.give(12, 12, 1)),
                new Refusal("nobody gives to a dead one", BAD_INDEX, s -> s.give(-1, 0, 1)),
                new Refusal("0 to the same", BAD_ARGUMENT, s -> s.give(2, 2, 0)),
                new Refusal("0 to a dead one", BAD_ARGUMENT, s -> s.give(2, 0, 0)),
                new Refusal("0 of a dead one", BAD_ARGUMENT, s -> s.give(0, 2, 0)),
                new Refusal("100 of a small purse", BAD_ARGUMENT, s -> s.give(2, 3, 100)),
                new Refusal("a fever of no week at no pot", BAD_INDEX, s -> s.setFever(8, 3)),
                new Refusal("201 of nothing", BAD_INDEX, s -> s.buy(2, 201)),
                new Refusal("11 of nothing for 10 coins", BAD_INDEX, s -> s.buy(2, 11)),
                new Refusal("201 coals for 10 coins", BAD_ARGUMENT, s -> s.buy(0, 201)),
                new Refusal("201 pounds for 10 coins", BAD_ARGUMENT, s -> s.buy(1, 201)),
                new Refusal("501 of 16 tops", BAD_ARGUMENT, s -> s.sell(501)),
                new Refusal("61 weeks, and of what is not told", BAD_ARGUMENT, s -> s.foresee(61, 9)),
                new Refusal("0 weeks, and of what is not told", BAD_ARGUMENT, s -> s.foresee(0, 1)))) {
            Twins.refused(Scenes::crowded, refusal.call(), refusal.due(), refusal.asked());
        }
    }
}
