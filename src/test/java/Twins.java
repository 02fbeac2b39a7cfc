/** Two objects made alike, of which one gets a call more: what differs between them, the call has changed. */
final class Twins {
    interface Maker {
        CombersSociety make();
    }

    interface Asked {
        Object of(CombersSociety society);
    }

    private Twins() {
    }

    /** The call must throw exactly this class, and change nothing. */
    static void refused(Maker maker, String call, Class<?> due, Asked asked) {
        CombersSociety one = maker.make();
        judgeThrow(one, call, due, asked);
        alike(call, maker.make(), one);
    }

    /** The call must have this answer, and change nothing. */
    static void unchanged(Maker maker, String call, Object due, Asked asked) {
        CombersSociety one = maker.make();
        String got = "" + asked.of(one);
        Check.judge(got.equals("" + due), call, "" + due, got);
        alike(call, maker.make(), one);
    }

    private static void judgeThrow(CombersSociety one, String call, Class<?> due, Asked asked) {
        String got;
        try {
            got = "" + asked.of(one);
        } catch (RuntimeException e) {
            got = e.getClass().getName();
        }
        Check.judge(due.getName().equals(got), call, due.getName(), got);
    }

    private static void alike(String call, CombersSociety untouched, CombersSociety one) {
        String due = everything(untouched);
        String got = everything(one);
        Check.judge(due.equals(got), "everything behind " + call, due, got);
    }

    /** All that calls tell, now and some weeks later; some 300 calls with 12 members. */
    private static String everything(CombersSociety society) {
        StringBuilder all = new StringBuilder();
        all.append("digest ").append(society.digest());
        facts(society, all);
        all.append(" rules ").append(society.setDues(2));
        for (int week = 0; week < 8; week++) {
            all.append(' ').append(society.setFever(week, week % 3));
        }
        all.append(" later ").append(society.pass(9));
        facts(society, all);
        return all.toString();
    }

    private static void facts(CombersSociety society, StringBuilder all) {
        all.append(" owes ").append(society.owes()).append(" mean ").append(society.mean());
        all.append(" count");
        for (int what = 0; what <= 12; what++) {
            all.append(' ').append(society.count(what));
        }
        for (int pot = 0; pot <= 2; pot++) {
            all.append(" pot");
            for (int what = 0; what <= 3; what++) {
                all.append(' ').append(society.pot(pot, what));
            }
        }
        for (int member = 0; member < society.count(1); member++) {
            all.append(" told");
            for (int what = 0; what <= 8; what++) {
                all.append(' ').append(society.told(member, what));
            }
        }
    }
}
