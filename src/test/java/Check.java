import java.util.List;

/** Counts the answers that are not as due, and ends a test with exit code 1 if there was one. */
final class Check {
    interface Call {
        long run();
    }

    static final Class<? extends RuntimeException> INDEX = IndexOutOfBoundsException.class;
    static final Class<? extends RuntimeException> ARGUMENT = IllegalArgumentException.class;
    static final Class<? extends RuntimeException> STATE = IllegalStateException.class;

    private static int checks = 0;
    private static int wrong = 0;

    private Check() {
    }

    static void due(String what, long got, long want) {
        checks++;
        if (got != want) {
            wrong++;
            System.out.println(what + " answered " + got + ", due is " + want);
        }
    }

    static void due(String what, String got, String want) {
        checks++;
        if (!got.equals(want)) {
            wrong++;
            System.out.println(what + " answered " + got + ", due is " + want);
        }
    }

    static void dueDouble(String what, double got, double want) {
        checks++;
        if (Double.compare(got, want) != 0) {
            wrong++;
            System.out.println(what + " answered " + got + ", due is " + want);
        }
    }

    /** The first line that is another one is told. */
    static void dueSame(String what, List<String> got, List<String> want) {
        checks++;
        int lines = Math.max(got.size(), want.size());
        for (int i = 0; i < lines; i++) {
            String gotLine = i < got.size() ? got.get(i) : "no line";
            String wantLine = i < want.size() ? want.get(i) : "no line";
            if (!gotLine.equals(wantLine)) {
                wrong++;
                System.out.println(what + ": " + gotLine + ", due is " + wantLine);
                return;
            }
        }
    }

    /** The answer, or the very class of what is thrown. */
    static String outcome(Call call) {
        try {
            return "" + call.run();
        } catch (RuntimeException e) {
            return e.getClass().getName();
        }
    }

    /** The call throws exactly this class, none below it, and leaves the tower as it was. */
    static void dueThrow(String what, BellRoster tower, Class<? extends RuntimeException> due, Call call) {
        long before = tower.digest();
        due(what, outcome(call), due.getName());
        due(what + ": the digest behind it", tower.digest(), before);
    }

    /** The call answers as due, and leaves the tower as it was. */
    static void dueUnchanged(String what, BellRoster tower, long want, Call call) {
        long before = tower.digest();
        due(what, call.run(), want);
        due(what + ": the digest behind it", tower.digest(), before);
    }

    static void finish() {
        System.out.println(checks + " checks, " + wrong + " wrong");
        if (wrong != 0 || checks == 0) {
            System.exit(1);
        }
    }
}
