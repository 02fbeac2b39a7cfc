/** Compares answers with what is due, and ends a test with exit code 1 if one differs. */
final class Check {
    interface Call {
        Object run();
    }

    private static int right = 0;
    private static int wrong = 0;

    private Check() {
    }

    /** A society with members of these skills and strengths, two numbers each. */
    static CombersSociety with(int... skillsAndStrengths) {
        CombersSociety society = new CombersSociety();
        for (int i = 0; i + 1 < skillsAndStrengths.length; i += 2) {
            society.join(skillsAndStrengths[i], skillsAndStrengths[i + 1]);
        }
        return society;
    }

    static void same(String call, long due, long got) {
        judge(due == got, call, "" + due, "" + got);
    }

    static void sameDouble(String call, double due, double got) {
        judge(due == got, call, "" + due, "" + got);
    }

    /** The call must throw exactly this class, and leave the society as it was. */
    static void refuses(CombersSociety society, String call, Class<?> due, Call asked) {
        long before = society.digest();
        String got;
        try {
            got = "" + asked.run();
        } catch (RuntimeException e) {
            got = e.getClass().getName();
        }
        judge(due.getName().equals(got), call, due.getName(), got);
        same("digest behind the refused " + call, before, society.digest());
    }

    static void judge(boolean isRight, String call, String due, String got) {
        if (isRight) {
            right++;
        } else {
            wrong++;
            System.out.println(call + " answered " + got + ", due is " + due);
        }
    }

    static int rightSoFar() {
        return right;
    }

    static int wrongSoFar() {
        return wrong;
    }

    static void end() {
        System.out.println(right + " answers as due, " + wrong + " not");
        if (wrong > 0 || right == 0) {
            System.exit(1);
        }
    }
}
