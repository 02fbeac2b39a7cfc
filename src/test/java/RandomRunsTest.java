import java.util.Random;

/** All promises: long runs of calls, right and wrong ones, beside the oracle; the seeds are fixed. */
public final class RandomRunsTest {
    private static final int RUNS = 1300;
    private static final int MOST_CALLS = 512;
    private static final int KINDS = 20;
    private static final int[] ODD = {Integer.MIN_VALUE, Integer.MAX_VALUE, -1, 1 << 30, -2, 1000, 12, 13};

    private final Random random;
    private final int oddShare;
    private CombersSociety society;
    private Oracle oracle;
    private int calls = 0;

    private RandomRunsTest(long seed) {
        random = new Random(seed);
        oddShare = seed % 3 == 0 ? 10 : 60;
    }

    public static void main(String[] args) {
        for (int run = 0; run < RUNS; run++) {
            new RandomRunsTest(run).run(run);
        }
        Check.end();
    }

    private void run(int number) {
        society = new CombersSociety();
        oracle = new Oracle();
        int passShare = 1 + random.nextInt(12);
        int joins = random.nextInt(13);
        for (int i = 0; i < joins; i++) {
            compare(number, 0, 1 + random.nextInt(9), 1 + random.nextInt(20), 0);
            if (random.nextInt(4) > 0) {
                compare(number, 1, i, random.nextInt(3), 0);
            }
        }
        // A round takes two calls at most, and one more is kept for the last digest.
        while (calls + 3 <= MOST_CALLS) {
            int kind = random.nextInt(passShare) == 0 ? 12 : random.nextInt(KINDS);
            compare(number, kind, first(kind), second(kind), third());
        }
        Check.same("digest behind the run " + number, oracle.digest(), society.digest());
    }

    private int odd(int usual) {
        return random.nextInt(oddShare) == 0 ? ODD[random.nextInt(ODD.length)] : usual;
    }

    private int first(int kind) {
        switch (kind) {
            case 0:
                return odd(random.nextInt(11));
            case 6:
                return odd(random.nextInt(8));
            case 7:
                return odd(random.nextInt(4));
            case 8:
                return odd(random.nextInt(2));
            case 9:
                return odd(random.nextInt(random.nextInt(3) == 0 ? 502 : 40));
            case 10:
                return odd(random.nextInt(3));
            case 11:
                return odd(random.nextInt(13));
            case 12:
                return odd(1 + random.nextInt(random.nextInt(8) == 0 ? 60 : 4));
            case 13:
                return odd(random.nextInt(62));
            default:
                return odd(random.nextInt(Math.max(1, oracle.count(1))));
        }
    }

    private int second(int kind) {
        switch (kind) {
            case 0:
                return odd(random.nextInt(22));
            case 1:
            case 6:
                return odd(random.nextInt(4) - 1);
            case 8:
                return odd(random.nextInt(random.nextInt(3) == 0 ? 202 : 20));
            case 10:
                return odd(random.nextInt(4));
            case 13:
                return odd(2 + random.nextInt(7));
            case 4:
                return odd(random.nextInt(9));
            default:
                return odd(random.nextInt(12));
        }
    }

    private int third() {
        return odd(random.nextInt(random.nextInt(3) == 0 ? 101 : 12));
    }

    private void compare(int run, int kind, int a, int b, int c) {
        String due = answer(() -> ofOracle(kind, a, b, c));
        String got = answer(() -> ofSociety(kind, a, b, c));
        String call = "run " + run + ": call " + kind + " (" + a + ", " + b + ", " + c + ")";
        Check.judge(due.equals(got), call, due, got);
        calls++;
        if (due.startsWith("throws") || kind >= 13) {
            Check.same("digest behind " + call, oracle.digest(), society.digest());
            calls++;
        }
    }

    private static String answer(Check.Call call) {
        try {
            return "" + call.run();
        } catch (RuntimeException e) {
            return "throws " + e.getClass().getName();
        }
    }

    private Object ofSociety(int kind, int a, int b, int c) {
        switch (kind) {
            case 0: return society.join(a, b);
            case 1: return society.place(a, b);
            case 2: return society.give(a, b, c);
            case 3: return society.settle(a);
            case 4: return society.told(a, b);
            case 5: return society.owes();
            case 6: return society.setFever(a, b);
            case 7: return society.setDues(a);
            case 8: return society.buy(a, b);
            case 9: return society.sell(a);
            case 10: return society.pot(a, b);
            case 11: return society.count(a);
            case 12: return society.pass(a);
            case 13: return society.foresee(a, b);
            case 14: return society.earns(a);
            case 15: return society.dies(a);
            case 16: return society.lasts();
            case 17: return society.advise(a);
            case 18: return society.mean();
            default: return society.digest();
        }
    }

    private Object ofOracle(int kind, int a, int b, int c) {
        switch (kind) {
            case 0: return oracle.join(a, b);
            case 1: return oracle.place(a, b);
            case 2: return oracle.give(a, b, c);
            case 3: return oracle.settle(a);
            case 4: return oracle.told(a, b);
            case 5: return oracle.owes();
            case 6: return oracle.setFever(a, b);
            case 7: return oracle.setDues(a);
            case 8: return oracle.buy(a, b);
            case 9: return oracle.sell(a);
            case 10: return oracle.pot(a, b);
            case 11: return oracle.count(a);
            case 12: return oracle.pass(a);
            case 13: return oracle.foresee(a, b);
            case 14: return oracle.earns(a);
            case 15: return oracle.dies(a);
            case 16: return oracle.lasts();
            case 17: return oracle.advise(a);
            case 18: return oracle.mean();
            default: return oracle.digest();
        }
    }
}
