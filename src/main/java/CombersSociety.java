/** A friendly society of wool combers: its stores, pots and members, and what would be. */
public final class CombersSociety {
    private static final int MOST_MEMBERS = 12;
    private static final int MOST_SKILL = 9;
    private static final int MOST_STRENGTH = 20;
    private static final int MOST_UNPAID = 9;
    private static final int MEMBER_FACTS = 9;

    private static final int WELL = 0;
    private static final int SICK = 1;
    private static final int DEAD = 2;
    private static final int NOT_JOINED = 3;

    private static final int POTS = 3;
    private static final int NO_POT = -1;
    private static final int MOST_AT_POT = 4;
    private static final int MOST_HEAT = 9;
    private static final int POT_FACTS = 4;

    private static final int FEVER_WEEKS = 8;
    private static final int MOST_DUES = 3;
    private static final int MOST_GIVEN = 99;
    private static final int MOST_BOUGHT = 200;
    private static final int MOST_SOLD = 500;
    private static final int FUNERAL_COINS = 12;
    private static final int COUNTS = 13;

    private static final int MOST_WEEKS = 60;
    private static final int WEEKS_AHEAD = 100;
    private static final int ADVICE_WEEKS = 6;

    private final Society now;
    // Made once and written over by each look ahead, so that no call makes objects.
    private final Society trial;

    public CombersSociety() {
        now = new Society();
        trial = new Society();
    }

    // ---- members

    public int join(int skill, int strength) throws IllegalArgumentException, IllegalStateException {
        if (isOutside(skill, 1, MOST_SKILL) || isOutside(strength, 1, MOST_STRENGTH)) {
            throw new IllegalArgumentException("skill or strength");
        }
        int number = now.joined;
        if (isOutside(number, 0, MOST_MEMBERS - 1)) {
            throw new IllegalStateException("all have joined who can");
        }
        now.members[number].enter(skill, strength);
        now.joined++;
        return number;
    }

    public int place(int member, int pot) throws IndexOutOfBoundsException, IllegalStateException {
        if (!now.hasMember(member) || isOutside(pot, NO_POT, POTS - 1)) {
            throw new IndexOutOfBoundsException("member or pot");
        }
        Member one = now.members[member];
        if (one.health == DEAD || !now.hasRoom(pot, one)) {
            throw new IllegalStateException("dead, or the pot is full");
        }
        int before = one.pot;
        one.pot = pot;
        return before;
    }

    public int give(int from, int to, int coins)
            throws IndexOutOfBoundsException, IllegalArgumentException, IllegalStateException {
        if (!now.hasMember(from) || !now.hasMember(to)) {
            throw new IndexOutOfBoundsException("member");
        }
        if (isOutside(coins, 1, MOST_GIVEN)) {
            throw new IllegalArgumentException("coins");
        }
        Member giver = now.members[from];
        Member getter = now.members[to];
        if (from == to || giver.health == DEAD || getter.health == DEAD || giver.coins < coins) {
            throw new IllegalStateException("the same, dead, or too few coins");
        }
        giver.coins -= coins;
        getter.coins += coins;
        return giver.coins;
    }

    public int settle(int member) throws IndexOutOfBoundsException, IllegalStateException {
        if (!now.hasMember(member)) {
            throw new IndexOutOfBoundsException("member");
        }
        Member one = now.members[member];
        if (one.health == DEAD) {
            throw new IllegalStateException("dead");
        }
        now.box += one.payMarks();
        return one.marks;
    }

    public int told(int member, int what) throws IndexOutOfBoundsException {
        if (!now.hasMember(member) || isOutside(what, 0, MEMBER_FACTS - 1)) {
            throw new IndexOutOfBoundsException("member or what");
        }
        return now.members[member].fact(what);
    }

    public int owes() {
        int most = 0;
        int who = -1;
        for (int i = 0; i < now.members.length; i++) {
            if (now.members[i].marks > most) {
                most = now.members[i].marks;
                who = i;
            }
        }
        return who;
    }

    // ---- stores and rules

    public int setFever(int week, int pot) throws IndexOutOfBoundsException, IllegalArgumentException {
        if (isOutside(week, 0, FEVER_WEEKS - 1)) {
            throw new IndexOutOfBoundsException("week");
        }
        if (isOutside(pot, NO_POT, POTS - 1)) {
            throw new IllegalArgumentException("pot");
        }
        int before = now.fevers[week];
        now.fevers[week] = pot;
        return before;
    }

    public int setDues(int dues) throws IllegalArgumentException {
        if (isOutside(dues, 0, MOST_DUES)) {
            throw new IllegalArgumentException("dues");
        }
        int before = now.dues;
        now.dues = dues;
        return before;
    }

    public int buy(int what, int many)
            throws IndexOutOfBoundsException, IllegalArgumentException, IllegalStateException {
        if (isOutside(what, 0, 1)) {
            throw new IndexOutOfBoundsException("what");
        }
        if (isOutside(many, 1, MOST_BOUGHT)) {
            throw new IllegalArgumentException("many");
        }
        int price = what == 0 ? many : (many + 2) / 3;
        if (now.box < price) {
            throw new IllegalStateException("too few coins in the box");
        }
        now.box -= price;
        if (what == 0) {
            now.coals += many;
            return now.coals;
        }
        now.wool += many;
        return now.wool;
    }

    public int sell(int pounds) throws IllegalArgumentException, IllegalStateException {
        if (isOutside(pounds, 1, MOST_SOLD)) {
            throw new IllegalArgumentException("pounds");
        }
        if (now.tops < pounds) {
            throw new IllegalStateException("too few tops");
        }
        now.tops -= pounds;
        now.box += pounds / 2;
        return now.box;
    }

    public int pot(int pot, int what) throws IndexOutOfBoundsException {
        if (isOutside(pot, 0, POTS - 1) || isOutside(what, 0, POT_FACTS - 1)) {
            throw new IndexOutOfBoundsException("pot or what");
        }
        return potFact(pot, what);
    }

    public int count(int what) throws IndexOutOfBoundsException {
        if (isOutside(what, 0, COUNTS - 1)) {
            throw new IndexOutOfBoundsException("what");
        }
        return now.tally(what);
    }

    // ---- weeks and what would be

    public int pass(int weeks) throws IllegalArgumentException {
        if (isOutside(weeks, 1, MOST_WEEKS)) {
            throw new IllegalArgumentException("weeks");
        }
        int before = now.box;
        now.liveWeeks(weeks);
        return now.box - before;
    }

    public int foresee(int weeks, int what) throws IllegalArgumentException, IndexOutOfBoundsException {
        if (isOutside(weeks, 1, MOST_WEEKS)) {
            throw new IllegalArgumentException("weeks");
        }
        if (isOutside(what, 2, 8)) {
            throw new IndexOutOfBoundsException("what");
        }
        trial.copyFrom(now);
        trial.liveWeeks(weeks);
        return trial.tally(what);
    }

    public int earns(int member) throws IndexOutOfBoundsException {
        if (!now.hasMember(member)) {
            throw new IndexOutOfBoundsException("member");
        }
        trial.copyFrom(now);
        trial.lightFires();
        trial.combWool();
        return trial.members[member].coins - now.members[member].coins;
    }

    public int dies(int member) throws IndexOutOfBoundsException {
        if (!now.hasMember(member)) {
            throw new IndexOutOfBoundsException("member");
        }
        trial.copyFrom(now);
        Member one = trial.members[member];
        for (int weeks = 0; weeks < WEEKS_AHEAD; weeks++) {
            if (one.health == DEAD) {
                return weeks;
            }
            trial.liveWeek();
        }
        return one.health == DEAD ? WEEKS_AHEAD : -1;
    }

    public int lasts() {
        trial.copyFrom(now);
        for (int weeks = 1; weeks <= WEEKS_AHEAD; weeks++) {
            trial.liveWeek();
            if (trial.fellShort) {
                return weeks;
            }
        }
        return -1;
    }

    public int advise(int member) throws IndexOutOfBoundsException, IllegalStateException {
        if (!now.hasMember(member)) {
            throw new IndexOutOfBoundsException("member");
        }
        Member one = now.members[member];
        if (one.health == DEAD) {
            throw new IllegalStateException("dead");
        }
        int best = NO_POT;
        int mostTops = -1;
        for (int pot = 0; pot < POTS; pot++) {
            if (now.hasRoom(pot, one)) {
                trial.copyFrom(now);
                trial.members[member].pot = pot;
                trial.liveWeeks(ADVICE_WEEKS);
                if (trial.tops > mostTops) {
                    mostTops = trial.tops;
                    best = pot;
                }
            }
        }
        return best;
    }

    public double mean() {
        int living = now.howMany(WELL) + now.howMany(SICK);
        if (living <= 0) {
            return 0.0;
        }
        int strengths = 0;
        for (Member one : now.members) {
            strengths += one.strength;
        }
        return (double) strengths / (double) living;
    }

    public long digest() {
        long sum = 1361L;
        for (int what = 0; what < COUNTS; what++) {
            sum = sum * 31L + now.tally(what);
        }
        sum = sum * 31L + now.dues;
        for (int pot : now.fevers) {
            sum = sum * 31L + pot;
        }
        for (int pot = 0; pot < POTS; pot++) {
            for (int what = 0; what < POT_FACTS; what++) {
                sum = sum * 31L + potFact(pot, what);
            }
        }
        for (Member one : now.members) {
            if (one.health != NOT_JOINED) {
                for (int what = 0; what < MEMBER_FACTS; what++) {
                    sum = sum * 31L + one.fact(what);
                }
            }
        }
        return sum;
    }

    private static boolean isOutside(int number, int least, int most) {
        return number < least || number > most;
    }

    private int potFact(int pot, int what) {
        switch (what) {
            case 0:
                return now.heatOf(pot);
            case 1:
                return now.atPot(pot);
            case 2:
                return now.combersAt(pot);
            default:
                trial.copyFrom(now);
                trial.lightFires();
                return trial.poundsOfPot(pot);
        }
    }

    /** One place on the roll; all places are made at first and filled as members join. */
    private static final class Member {
        int skill;
        int strength;
        int coins;
        int marks;
        int unpaid;
        int pot;
        int health;
        int weeksLeft;
        int weeksSick;
        // Set from the death to the funeral in the same week.
        boolean unburied;

        Member() {
            pot = NO_POT;
            health = NOT_JOINED;
        }

        void enter(int itsSkill, int itsStrength) {
            skill = itsSkill;
            strength = itsStrength;
            coins = 10;
            health = WELL;
        }

        void copyFrom(Member other) {
            skill = other.skill;
            strength = other.strength;
            coins = other.coins;
            marks = other.marks;
            unpaid = other.unpaid;
            pot = other.pot;
            health = other.health;
            weeksLeft = other.weeksLeft;
            weeksSick = other.weeksSick;
            unburied = other.unburied;
        }

        boolean combs() {
            return health == WELL && pot >= 0 && pot < POTS;
        }

        boolean lives() {
            return health == WELL || health == SICK;
        }

        void fallSick() {
            health = SICK;
            weeksLeft = 6 - strength / 4;
            weeksSick = 0;
        }

        void getWell() {
            health = WELL;
            weeksLeft = 0;
            weeksSick = 0;
        }

        void die() {
            health = DEAD;
            strength = 0;
            marks = 0;
            unpaid = 0;
            pot = NO_POT;
            weeksLeft = 0;
            weeksSick = 0;
            unburied = true;
        }

        /** Pays as many marks as the purse allows, and returns the coins for the box. */
        int payMarks() {
            int paid = Math.min(marks, coins);
            marks -= paid;
            coins -= paid;
            return paid;
        }

        /** Pays the dues, or is one unpaid week further, and returns the coins for the box. */
        int payDues(int dues) {
            if (coins < dues) {
                unpaid = Math.min(MOST_UNPAID, unpaid + 1);
                return 0;
            }
            coins -= dues;
            unpaid = 0;
            return dues;
        }

        /** Drinks, pays and rests on a club night, and returns the coins for the box. */
        int spendClubNight() {
            if (marks < 12) {
                marks += 1 + coins / 8;
            }
            int paid = payMarks();
            strength = Math.min(MOST_STRENGTH, strength + 1);
            return paid;
        }

        int fact(int what) {
            switch (what) {
                case 0:
                    return skill;
                case 1:
                    return strength;
                case 2:
                    return coins;
                case 3:
                    return marks;
                case 4:
                    return unpaid;
                case 5:
                    return pot;
                case 6:
                    return health;
                case 7:
                    return weeksLeft;
                default:
                    return weeksSick;
            }
        }
    }

    /** All that changes in the course of the weeks, and how a week goes. */
    private static final class Society {
        int week;
        int joined;
        int box;
        int coals;
        int wool;
        int tops;
        int dues;
        int sickPaid;
        int funeralsPaid;
        // Whether in the last week the box could not pay something whole.
        boolean fellShort;
        final int[] fevers;
        final int[] heats;
        // How many comb at each pot; only as of the last countCombers(), so not copied.
        final int[] combing;
        final Member[] members;

        Society() {
            box = 60;
            coals = 30;
            wool = 200;
            dues = 1;
            fevers = new int[FEVER_WEEKS];
            for (int i = 0; i < fevers.length; i++) {
                fevers[i] = NO_POT;
            }
            heats = new int[POTS];
            combing = new int[POTS];
            members = new Member[MOST_MEMBERS];
            for (int i = 0; i < members.length; i++) {
                members[i] = new Member();
            }
        }

        void copyFrom(Society other) {
            week = other.week;
            joined = other.joined;
            box = other.box;
            coals = other.coals;
            wool = other.wool;
            tops = other.tops;
            dues = other.dues;
            sickPaid = other.sickPaid;
            funeralsPaid = other.funeralsPaid;
            for (int i = 0; i < FEVER_WEEKS; i++) {
                fevers[i] = other.fevers[i];
            }
            for (int i = 0; i < POTS; i++) {
                heats[i] = other.heats[i];
            }
            for (int i = 0; i < MOST_MEMBERS; i++) {
                members[i].copyFrom(other.members[i]);
            }
        }

        boolean hasMember(int number) {
            return number >= 0 && number < MOST_MEMBERS && members[number].health != NOT_JOINED;
        }

        /** Whether there are few enough others at a pot for this one; at none there is always room. */
        boolean hasRoom(int pot, Member one) {
            if (pot == NO_POT) {
                return true;
            }
            int others = one.pot == pot ? atPot(pot) - 1 : atPot(pot);
            return others < MOST_AT_POT;
        }

        int heatOf(int pot) {
            return pot >= 0 && pot < POTS ? heats[pot] : 0;
        }

        int atPot(int pot) {
            int there = 0;
            for (Member one : members) {
                if (one.lives() && one.pot == pot) {
                    there++;
                }
            }
            return there;
        }

        int combersAt(int pot) {
            countCombers();
            return pot >= 0 && pot < POTS ? combing[pot] : 0;
        }

        void countCombers() {
            for (int pot = 0; pot < POTS; pot++) {
                combing[pot] = 0;
            }
            for (Member one : members) {
                if (one.combs()) {
                    combing[one.pot]++;
                }
            }
        }

        int howMany(int health) {
            int found = 0;
            for (Member one : members) {
                if (one.health == health) {
                    found++;
                }
            }
            return found;
        }

        int coinsInPurses() {
            int coins = 0;
            for (Member one : members) {
                coins += one.coins;
            }
            return coins;
        }

        int marksOfAll() {
            int marks = 0;
            for (Member one : members) {
                marks += one.marks;
            }
            return marks;
        }

        int tally(int what) {
            switch (what) {
                case 0:
                    return week;
                case 1:
                    return joined;
                case 2:
                    return howMany(WELL);
                case 3:
                    return howMany(SICK);
                case 4:
                    return howMany(DEAD);
                case 5:
                    return box;
                case 6:
                    return coals;
                case 7:
                    return wool;
                case 8:
                    return tops;
                case 9:
                    return coinsInPurses();
                case 10:
                    return marksOfAll();
                case 11:
                    return sickPaid;
                default:
                    return funeralsPaid;
            }
        }

        void liveWeeks(int weeks) {
            for (int i = 0; i < weeks; i++) {
                liveWeek();
            }
        }

        void liveWeek() {
            fellShort = false;
            lightFires();
            combWool();
            spreadFever();
            nurseSick();
            takeDues();
            if (Math.floorMod(week, 4) == 3) {
                holdClubNight();
            }
            holdFunerals();
            week++;
        }

        void lightFires() {
            countCombers();
            for (int pot = 0; pot < POTS; pot++) {
                if (combing[pot] > 0 && coals > 0) {
                    coals--;
                    heats[pot] = Math.min(MOST_HEAT, heats[pot] + 3);
                } else {
                    heats[pot] = Math.max(0, heats[pot] - 2);
                }
            }
        }

        /** The pounds that one would comb with wool enough, once the fires are lit. */
        int poundsOf(Member one) {
            if (!one.combs()) {
                return 0;
            }
            int crowd = Math.max(0, combing[one.pot] - 2);
            return Math.max(0, one.skill + heats[one.pot] - 2 * crowd);
        }

        int poundsOfPot(int pot) {
            int pounds = 0;
            for (Member one : members) {
                if (one.pot == pot) {
                    pounds += poundsOf(one);
                }
            }
            return pounds;
        }

        void combWool() {
            for (Member one : members) {
                int pounds = Math.min(poundsOf(one), wool);
                wool -= pounds;
                tops += pounds;
                one.coins += pounds / 2;
            }
        }

        void spreadFever() {
            int pot = fevers[Math.floorMod(week, FEVER_WEEKS)];
            for (Member one : members) {
                if (one.combs() && one.pot == pot) {
                    one.fallSick();
                }
            }
        }

        void nurseSick() {
            for (Member one : members) {
                if (one.health == SICK) {
                    nurse(one);
                }
            }
        }

        void nurse(Member one) {
            one.strength--;
            if (one.strength <= 0) {
                one.die();
                return;
            }
            one.weeksSick++;
            one.weeksLeft--;
            if (one.unpaid < 3) {
                int paid = payOut(one.weeksSick <= 3 ? 5 : 2);
                one.coins += paid;
                sickPaid += paid;
            }
            if (one.weeksLeft <= 0) {
                one.getWell();
            }
        }

        /** Pays out of the box what is due, or all that it has, and returns what it paid. */
        int payOut(int due) {
            if (box < due) {
                fellShort = true;
            }
            int paid = Math.min(due, box);
            box -= paid;
            return paid;
        }

        void takeDues() {
            for (Member one : members) {
                if (one.health == WELL) {
                    box += one.payDues(dues);
                }
            }
        }

        void holdClubNight() {
            for (Member one : members) {
                if (one.health == WELL) {
                    box += one.spendClubNight();
                }
            }
        }

        void holdFunerals() {
            for (Member one : members) {
                if (one.unburied) {
                    bury(one);
                }
            }
        }

        void bury(Member dead) {
            funeralsPaid += payOut(FUNERAL_COINS);
            box += dead.coins;
            dead.coins = 0;
            dead.unburied = false;
            for (Member one : members) {
                if (one.lives() && one.coins > 0) {
                    one.coins--;
                    box++;
                }
            }
        }
    }
}
