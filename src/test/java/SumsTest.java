/** Promises 20 and 21: mean and digest. */
public final class SumsTest {
    public static void main(String[] args) {
        mean();
        digestOfANewOne();
        digestOfAll();
        Check.end();
    }

    private static void mean() {
        CombersSociety society = new CombersSociety();
        Check.sameDouble("mean of nobody", 0.0, society.mean());
        society.join(9, 1);
        Check.sameDouble("mean of one", 1.0, society.mean());
        society.join(9, 20);
        Check.sameDouble("mean of two", 10.5, society.mean());
        society.join(9, 8);
        Check.sameDouble("mean of three", 29.0 / 3.0, society.mean());
        society.place(0, 0);
        society.place(2, 0);
        society.setFever(0, 0);
        society.pass(1);
        Check.same("the first is dead", 2, society.told(0, 6));
        Check.same("the third is sick", 1, society.told(2, 6));
        Check.sameDouble("mean of who is not dead", 13.5, society.mean());
        CombersSociety last = new CombersSociety();
        last.join(1, 1);
        last.place(0, 0);
        last.setFever(0, 0);
        last.pass(1);
        Check.sameDouble("mean with all dead", 0.0, last.mean());
    }

    private static void digestOfANewOne() {
        long due = 1361;
        int[] numbers = {
            0, 0, 0, 0, 0, 60, 30, 200, 0, 0, 0, 0, 0, 1, -1, -1, -1, -1, -1, -1, -1, -1,
            0, 0, 0, 0, 0, 0, 0, 0, 0, 0, 0, 0
        };
        for (int number : numbers) {
            due = due * 31 + number;
        }
        CombersSociety society = new CombersSociety();
        Check.same("digest of a new one", due, society.digest());
        Check.same("digest once more", due, society.digest());
    }

    private static void digestOfAll() {
        int[] fevers = {2, -1, 0, -1, -1, 1, -1, -1};
        for (int weeks = 1; weeks <= 20; weeks++) {
            CombersSociety society = new CombersSociety();
            for (int i = 0; i < 7; i++) {
                society.join(i + 1, 2 * i + 1);
                society.place(i, i % 3);
            }
            for (int week = 0; week < 8; week++) {
                society.setFever(week, fevers[week]);
            }
            society.setDues(2);
            society.pass(weeks);
            Check.same("digest behind " + weeks + " weeks", asTold(society, 2, fevers), society.digest());
        }
    }

    private static long asTold(CombersSociety society, int dues, int[] fevers) {
        long sum = 1361;
        for (int what = 0; what <= 12; what++) {
            sum = sum * 31 + society.count(what);
        }
        sum = sum * 31 + dues;
        for (int pot : fevers) {
            sum = sum * 31 + pot;
        }
        for (int pot = 0; pot < 3; pot++) {
            for (int what = 0; what <= 3; what++) {
                sum = sum * 31 + society.pot(pot, what);
            }
        }
        for (int member = 0; member < society.count(1); member++) {
            for (int what = 0; what <= 8; what++) {
                sum = sum * 31 + society.told(member, what);
            }
        }
        return sum;
    }
}
