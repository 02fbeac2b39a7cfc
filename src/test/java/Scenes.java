/** Societies as the boundary tests need them. */
final class Scenes {
    private Scenes() {
    }

    /** One week behind a fever: 0 is dead, 1 is sick at the pot 0 for 3 weeks more, 2 is well and at none. */
    static CombersSociety deadSickWell() {
        CombersSociety society = Check.with(5, 1, 5, 9, 5, 9);
        society.place(0, 0);
        society.place(1, 0);
        society.setFever(0, 0);
        society.pass(1);
        society.setFever(0, -1);
        return society;
    }

    /** As before, with 12 members: 3 to 6 are at the pot 1, the others at none; 16 tops, and 10 coins in the box. */
    static CombersSociety crowded() {
        CombersSociety society = deadSickWell();
        for (int i = 3; i < 12; i++) {
            society.join(5, 9);
        }
        for (int i = 3; i < 7; i++) {
            society.place(i, 1);
        }
        box(society, 10);
        return society;
    }

    /** So many coals and dues of 0; 0 alone has joined, and is at no pot; the pots 0 and 1 are cold, 2 has the heat 9. */
    static CombersSociety withCoals(int coals) {
        CombersSociety society = Check.with(1, 20);
        society.place(0, 2);
        society.pass(30 - coals);
        society.place(0, -1);
        society.setDues(0);
        return society;
    }

    /** One member of this strength at the pot 0, where there is a fever in the week 0; dues of 0. */
    static CombersSociety beforeFever(int strength) {
        CombersSociety society = Check.with(1, strength);
        society.setDues(0);
        society.place(0, 0);
        society.setFever(0, 0);
        return society;
    }

    /** 0 has these marks and no coin, 1 has what is left; dues of 0. */
    static CombersSociety withMarks(int marks) {
        CombersSociety society = Check.with(1, 1, 1, 9);
        society.setDues(0);
        society.give(0, 1, 10);
        for (int i = 0; i < marks; i++) {
            society.pass(4);
        }
        return society;
    }

    /** 502 tops, and 12 members at three pots. */
    static CombersSociety withManyTops() {
        CombersSociety society = new CombersSociety();
        for (int i = 0; i < 12; i++) {
            society.join(9, 20);
            society.place(i, i / 4);
        }
        society.setDues(3);
        society.buy(1, 180);
        society.pass(3);
        society.buy(1, 122);
        society.setDues(0);
        society.pass(1);
        return society;
    }

    /** Leaves a member so many coins, by a gift to or from another one. */
    static void purse(CombersSociety society, int member, int other, int coins) {
        int has = society.told(member, 2);
        if (has > coins) {
            society.give(member, other, has - coins);
        }
        if (has < coins) {
            society.give(other, member, coins - has);
        }
    }

    /** Leaves the box so many coins; the others go for coals. */
    static void box(CombersSociety society, int coins) {
        int others = society.count(5) - coins;
        if (others > 0) {
            society.buy(0, others);
        }
    }
}
