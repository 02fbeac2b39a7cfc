import java.util.ArrayList;
import java.util.Arrays;
import java.util.List;

/**
 * The document once more, apart from the program: rows of numbers, copied whole for each look ahead.
 * A member's row has what told() tells, by its numbers; stores have what count() tells, by its numbers.
 */
final class Oracle {
    private static final int STRENGTH = 1;
    private static final int PURSE = 2;
    private static final int MARKS = 3;
    private static final int UNPAID = 4;
    private static final int POT = 5;
    private static final int STATUS = 6;
    private static final int LEFT = 7;
    private static final int SO_FAR = 8;

    private final List<int[]> people = new ArrayList<>();
    private final int[] heat = new int[3];
    private final int[] fever = {-1, -1, -1, -1, -1, -1, -1, -1};
    private int week = 0;
    private int box = 60;
    private int coals = 30;
    private int wool = 200;
    private int tops = 0;
    private int dues = 1;
    private int sickPay = 0;
    private int funerals = 0;
    private boolean lack = false;

    private Oracle copy() {
        Oracle other = new Oracle();
        for (int[] row : people) {
            other.people.add(row.clone());
        }
        System.arraycopy(heat, 0, other.heat, 0, 3);
        System.arraycopy(fever, 0, other.fever, 0, 8);
        other.week = week;
        other.box = box;
        other.coals = coals;
        other.wool = wool;
        other.tops = tops;
        other.dues = dues;
        other.sickPay = sickPay;
        other.funerals = funerals;
        return other;
    }

    private void needMember(int member) {
        if (member < 0 || member >= people.size()) {
            throw new IndexOutOfBoundsException();
        }
    }

    private void needIndex(int x, int least, int most) {
        if (x < least || x > most) {
            throw new IndexOutOfBoundsException();
        }
    }

    private void needArgument(int x, int least, int most) {
        if (x < least || x > most) {
            throw new IllegalArgumentException();
        }
    }

    private void needState(boolean fine) {
        if (!fine) {
            throw new IllegalStateException();
        }
    }

    private boolean isDead(int member) {
        return people.get(member)[STATUS] == 2;
    }

    private long othersAt(int pot, int member) {
        int[] one = people.get(member);
        return people.stream().filter(row -> row != one && row[POT] == pot).count();
    }

    private int combers(int pot) {
        return (int) people.stream().filter(row -> row[STATUS] == 0 && row[POT] == pot).count();
    }

    int join(int skill, int strength) {
        needArgument(skill, 1, 9);
        needArgument(strength, 1, 20);
        needState(people.size() < 12);
        people.add(new int[] {skill, strength, 10, 0, 0, -1, 0, 0, 0});
        return people.size() - 1;
    }

    int place(int member, int pot) {
        needMember(member);
        needIndex(pot, -1, 2);
        needState(!isDead(member));
        needState(pot == -1 || othersAt(pot, member) < 4);
        int before = people.get(member)[POT];
        people.get(member)[POT] = pot;
        return before;
    }

    int give(int from, int to, int coins) {
        needMember(from);
        needMember(to);
        needArgument(coins, 1, 99);
        needState(from != to && !isDead(from) && !isDead(to) && people.get(from)[PURSE] >= coins);
        people.get(to)[PURSE] += coins;
        return people.get(from)[PURSE] -= coins;
    }

    int settle(int member) {
        needMember(member);
        needState(!isDead(member));
        payMarks(people.get(member));
        return people.get(member)[MARKS];
    }

    private void payMarks(int[] row) {
        while (row[MARKS] > 0 && row[PURSE] > 0) {
            row[MARKS]--;
            row[PURSE]--;
            box++;
        }
    }

    int told(int member, int what) {
        needMember(member);
        needIndex(what, 0, 8);
        return people.get(member)[what];
    }

    int owes() {
        int who = -1;
        for (int i = people.size() - 1; i >= 0; i--) {
            int marks = people.get(i)[MARKS];
            if (marks > 0 && (who < 0 || marks >= people.get(who)[MARKS])) {
                who = i;
            }
        }
        return who;
    }

    int setFever(int which, int pot) {
        needIndex(which, 0, 7);
        needArgument(pot, -1, 2);
        int before = fever[which];
        fever[which] = pot;
        return before;
    }

    int setDues(int coins) {
        needArgument(coins, 0, 3);
        int before = dues;
        dues = coins;
        return before;
    }

    int buy(int what, int many) {
        needIndex(what, 0, 1);
        needArgument(many, 1, 200);
        int price = what == 0 ? many : many / 3 + (many % 3 > 0 ? 1 : 0);
        needState(price <= box);
        box -= price;
        return what == 0 ? (coals += many) : (wool += many);
    }

    int sell(int pounds) {
        needArgument(pounds, 1, 500);
        needState(pounds <= tops);
        tops -= pounds;
        box += pounds / 2;
        return box;
    }

    int pot(int pot, int what) {
        needIndex(pot, 0, 2);
        needIndex(what, 0, 3);
        if (what == 0) {
            return heat[pot];
        }
        if (what == 1) {
            return (int) people.stream().filter(row -> row[POT] == pot).count();
        }
        if (what == 2) {
            return combers(pot);
        }
        Oracle next = copy();
        next.fire();
        return next.people.stream().filter(row -> row[POT] == pot).mapToInt(next::pounds).sum();
    }

    int count(int what) {
        needIndex(what, 0, 12);
        int[] status = new int[3];
        people.forEach(row -> status[row[STATUS]]++);
        int purses = people.stream().mapToInt(row -> row[PURSE]).sum();
        int marks = people.stream().mapToInt(row -> row[MARKS]).sum();
        int[] all = {
            week, people.size(), status[0], status[1], status[2], box, coals, wool, tops, purses, marks,
            sickPay, funerals
        };
        return all[what];
    }

    int pass(int weeks) {
        needArgument(weeks, 1, 60);
        int before = box;
        for (int i = 0; i < weeks; i++) {
            next();
        }
        return box - before;
    }

    int foresee(int weeks, int what) {
        needArgument(weeks, 1, 60);
        needIndex(what, 2, 8);
        Oracle then = copy();
        then.pass(weeks);
        return then.count(what);
    }

    int earns(int member) {
        needMember(member);
        Oracle then = copy();
        then.fire();
        then.comb();
        return then.people.get(member)[PURSE] - people.get(member)[PURSE];
    }

    int dies(int member) {
        needMember(member);
        Oracle then = copy();
        int weeks = 0;
        while (!then.isDead(member)) {
            if (weeks == 100) {
                return -1;
            }
            then.next();
            weeks++;
        }
        return weeks;
    }

    int lasts() {
        return lasts(100);
    }

    int lasts(int most) {
        Oracle then = copy();
        for (int weeks = 1; weeks <= most; weeks++) {
            then.next();
            if (then.lack) {
                return weeks;
            }
        }
        return -1;
    }

    int advise(int member) {
        needMember(member);
        needState(!isDead(member));
        int best = -1;
        int most = -1;
        for (int pot = 2; pot >= 0; pot--) {
            if (othersAt(pot, member) < 4) {
                Oracle then = copy();
                then.people.get(member)[POT] = pot;
                then.pass(6);
                if (then.tops >= most) {
                    most = then.tops;
                    best = pot;
                }
            }
        }
        return best;
    }

    double mean() {
        return people.stream().filter(row -> row[STATUS] != 2).mapToInt(row -> row[STRENGTH]).average().orElse(0.0);
    }

    long digest() {
        List<Integer> numbers = new ArrayList<>();
        for (int what = 0; what <= 12; what++) {
            numbers.add(count(what));
        }
        numbers.add(dues);
        Arrays.stream(fever).forEach(numbers::add);
        for (int pot = 0; pot < 3; pot++) {
            for (int what = 0; what <= 3; what++) {
                numbers.add(pot(pot, what));
            }
        }
        people.forEach(row -> Arrays.stream(row).forEach(numbers::add));
        long sum = 1361;
        for (int number : numbers) {
            sum = 31 * sum + number;
        }
        return sum;
    }

    private void next() {
        lack = false;
        List<int[]> dead = new ArrayList<>();
        fire();
        comb();
        catchFever();
        nurse(dead);
        payDues();
        if (week % 4 == 3) {
            clubNight();
        }
        dead.forEach(this::bury);
        week++;
    }

    private void fire() {
        for (int pot = 0; pot < 3; pot++) {
            boolean lit = combers(pot) != 0 && coals != 0;
            if (lit) {
                coals--;
            }
            heat[pot] = lit ? Math.min(heat[pot] + 3, 9) : Math.max(heat[pot] - 2, 0);
        }
    }

    private int pounds(int[] row) {
        if (row[STATUS] != 0 || row[POT] == -1) {
            return 0;
        }
        int pounds = row[0] + heat[row[POT]];
        for (int i = 3; i <= combers(row[POT]); i++) {
            pounds -= 2;
        }
        return pounds < 0 ? 0 : pounds;
    }

    private void comb() {
        for (int[] row : people) {
            int pounds = pounds(row);
            if (pounds > wool) {
                pounds = wool;
            }
            wool -= pounds;
            tops += pounds;
            row[PURSE] += pounds / 2;
        }
    }

    private void catchFever() {
        int where = fever[week % 8];
        for (int[] row : people) {
            if (where != -1 && row[POT] == where && row[STATUS] == 0) {
                row[STATUS] = 1;
                row[LEFT] = 6 - row[STRENGTH] / 4;
                row[SO_FAR] = 0;
            }
        }
    }

    private int pay(int coins) {
        if (coins > box) {
            lack = true;
            coins = box;
        }
        box -= coins;
        return coins;
    }

    private void nurse(List<int[]> dead) {
        for (int[] row : people) {
            if (row[STATUS] != 1) {
                continue;
            }
            if (--row[STRENGTH] == 0) {
                row[MARKS] = row[UNPAID] = row[LEFT] = row[SO_FAR] = 0;
                row[POT] = -1;
                row[STATUS] = 2;
                dead.add(row);
                continue;
            }
            row[LEFT]--;
            if (++row[SO_FAR] <= 3 && row[UNPAID] < 3) {
                int coins = pay(5);
                row[PURSE] += coins;
                sickPay += coins;
            } else if (row[UNPAID] < 3) {
                int coins = pay(2);
                row[PURSE] += coins;
                sickPay += coins;
            }
            if (row[LEFT] == 0) {
                row[STATUS] = row[SO_FAR] = 0;
            }
        }
    }

    private void payDues() {
        for (int[] row : people) {
            if (row[STATUS] == 0) {
                if (row[PURSE] >= dues) {
                    row[PURSE] -= dues;
                    box += dues;
                    row[UNPAID] = 0;
                } else if (row[UNPAID] < 9) {
                    row[UNPAID]++;
                }
            }
        }
    }

    private void clubNight() {
        for (int[] row : people) {
            if (row[STATUS] == 0) {
                if (row[MARKS] < 12) {
                    row[MARKS] += row[PURSE] / 8 + 1;
                }
                payMarks(row);
                if (row[STRENGTH] < 20) {
                    row[STRENGTH]++;
                }
            }
        }
    }

    private void bury(int[] dead) {
        funerals += pay(12);
        box += dead[PURSE];
        dead[PURSE] = 0;
        for (int[] row : people) {
            if (row[STATUS] != 2 && row[PURSE] > 0) {
                row[PURSE]--;
                box++;
            }
        }
    }
}
