/** Long runs of calls, the same each time, on a BellRoster and on the Oracle: all promises, one against the other. */
final class OracleTest {
    private static final int RUNS = 300;
    // With a digest besides behind each 16, 510: the document says nothing of an object behind its 512th call.
    private static final int CALLS = 480;
    private static final int[] CHANGES = {0, 1, 2, 4, 8, 16, 5, 9, 17, 10, 18, 20, 21};
    private static final int[] WILD = {Integer.MIN_VALUE, Integer.MAX_VALUE, -100, -1, 6, 12, 20, 61, 100, 201};

    private long seed;
    private BellRoster real;
    private Oracle due;

    private OracleTest() {
    }

    public static void main(String[] args) {
        for (int run = 0; run < RUNS; run++) {
            OracleTest test = new OracleTest();
            test.seed = run * 7919L + 1;
            test.run(run);
        }
        Check.finish();
    }

    private int below(int bound) {
        seed = seed * 6364136223846793005L + 1442695040888963407L;
        return (int) ((seed >>> 33) % bound);
    }

    /** Mostly least to most, at times one beside these, seldom one far off. */
    private int about(int least, int most) {
        int kind = below(80);
        if (kind == 0) {
            return WILD[below(WILD.length)];
        }
        if (kind == 1) {
            return least - 1;
        }
        if (kind == 2) {
            return most + 1;
        }
        return least + below(most - least + 1);
    }

    private int person() {
        return about(0, Math.max(0, due.people.size() - 1));
    }

    private int method() {
        return about(0, Math.max(0, due.methods.size() - 1));
    }

    private int change() {
        return below(20) == 0 ? about(0, 31) : CHANGES[below(CHANGES.length)];
    }

    private void run(int run) {
        real = new BellRoster();
        due = new Oracle();
        for (int call = 0; call < CALLS; call++) {
            int kind = below(60);
            if (call < 80 && kind > 20) {
                kind = new int[] {0, 0, 0, 9, 10, 10, 10, 3}[below(8)];
            }
            int[] args = arguments(kind);
            String name = "run " + run + ", call " + call + ", kind " + kind + java.util.Arrays.toString(args);
            Check.due(name, answer(true, kind, args), answer(false, kind, args));
            if (call % 16 == 15) {
                Check.due(name + ", the digest behind it", real.digest(), due.digest());
            }
        }
    }

    private int[] arguments(int kind) {
        switch (kind) {
            case 0: return new int[] {about(0, 3), about(0, 9), about(0, 99)};
            case 1: case 21: case 22: return new int[] {person(), about(-99, 99)};
            case 2: return new int[] {about(0, 2), about(0, 5), about(0, 3)};
            case 3: case 23: case 16: return new int[] {about(0, 2)};
            case 4: case 24: case 25: return new int[] {about(0, 2), about(0, 5), person()};
            case 5: return new int[] {person()};
            case 6: case 26: case 27: return new int[] {person(), about(0, 7)};
            case 7: case 28: case 29: return new int[] {about(0, 2), about(0, 5), about(0, 2)};
            case 9: case 20: case 8: return new int[] {};
            case 10: return new int[] {method(), change()};
            case 11: return new int[] {method(), about(0, 5)};
            case 12: return new int[] {method(), about(0, 200)};
            case 13: return new int[] {method(), about(0, 5)};
            case 17: return new int[] {about(0, 8)};
            case 18: return new int[] {about(1, below(4) == 0 ? 60 : 4)};
            case 19: return new int[] {person(), about(1, 60), about(3, 5)};
            default: return new int[] {about(0, 2), method(), below(2) == 0 ? 1 + below(6) : about(1, 12)};
        }
    }

    private String answer(boolean ofReal, int kind, int[] a) {
        try {
            return ofReal ? ofReal(kind, a) : ofDue(kind, a);
        } catch (RuntimeException e) {
            return e.getClass().getName();
        }
    }

    private String ofReal(int kind, int[] a) {
        switch (kind) {
            case 0: return "" + real.ringer(a[0], a[1], a[2]);
            case 1: case 21: case 22: return "" + real.vote(a[0], a[1]);
            case 2: return "" + real.seat(a[0], a[1], a[2]);
            case 3: case 23: return "" + real.elect(a[0]);
            case 4: case 24: case 25: return "" + real.put(a[0], a[1], a[2]);
            case 5: return "" + real.leave(a[0]);
            case 6: case 26: case 27: return "" + real.told(a[0], a[1]);
            case 7: case 28: case 29: return "" + real.bell(a[0], a[1], a[2]);
            case 8: return "" + real.mean();
            case 9: return "" + real.method();
            case 10: return "" + real.add(a[0], a[1]);
            case 11: return "" + real.about(a[0], a[1]);
            case 12: return "" + real.row(a[0], a[1]);
            case 13: return "" + real.dodges(a[0], a[1]);
            case 16: return "" + real.advise(a[0]);
            case 17: return "" + real.count(a[0]);
            case 18: return "" + real.pass(a[0]);
            case 19: return "" + real.foresee(a[0], a[1], a[2]);
            case 20: return "" + real.digest();
            default:
                return kind % 2 == 0 ? "" + real.ring(a[0], a[1], a[2]) : "" + real.would(a[0], a[1], a[2]);
        }
    }

    private String ofDue(int kind, int[] a) {
        switch (kind) {
            case 0: return "" + due.ringer(a[0], a[1], a[2]);
            case 1: case 21: case 22: return "" + due.vote(a[0], a[1]);
            case 2: return "" + due.seat(a[0], a[1], a[2]);
            case 3: case 23: return "" + due.elect(a[0]);
            case 4: case 24: case 25: return "" + due.put(a[0], a[1], a[2]);
            case 5: return "" + due.leave(a[0]);
            case 6: case 26: case 27: return "" + due.told(a[0], a[1]);
            case 7: case 28: case 29: return "" + due.bell(a[0], a[1], a[2]);
            case 8: return "" + due.mean();
            case 9: return "" + due.method();
            case 10: return "" + due.add(a[0], a[1]);
            case 11: return "" + due.about(a[0], a[1]);
            case 12: return "" + due.row(a[0], a[1]);
            case 13: return "" + due.dodges(a[0], a[1]);
            case 16: return "" + due.advise(a[0]);
            case 17: return "" + due.count(a[0]);
            case 18: return "" + due.pass(a[0]);
            case 19: return "" + due.foresee(a[0], a[1], a[2]);
            case 20: return "" + due.digest();
            default:
                return kind % 2 == 0 ? "" + due.ring(a[0], a[1], a[2]) : "" + due.would(a[0], a[1], a[2]);
        }
    }
}
