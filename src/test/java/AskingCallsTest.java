import java.util.List;

/** A call that only asks answers the same again, and changes nothing that a later call tells. */
final class AskingCallsTest {
    interface Maker {
        BellRoster make();
    }

    interface OnTower {
        long on(BellRoster tower);
    }

    private final String name;
    private final Maker maker;
    private final List<String> story;
    private final int ringers;
    private final int methods;

    private AskingCallsTest(String name, Maker maker) {
        this.name = name;
        this.maker = maker;
        this.story = Story.of(maker.make());
        this.ringers = maker.make().count(1);
        this.methods = maker.make().count(3);
    }

    public static void main(String[] args) {
        askAll("a new tower", BellRoster::new);
        askAll("a busy tower", Towers::busy);
        askAll("a full tower", Towers::full);
        Check.finish();
    }

    private static void askAll(String name, Maker maker) {
        AskingCallsTest test = new AskingCallsTest(name, maker);
        test.askOfRingers();
        test.askOfBands();
        test.askOfMethods();
        test.askOfAll();
    }

    private void asks(String call, OnTower action) {
        BellRoster tower = maker.make();
        String first = Check.outcome(() -> action.on(tower));
        Check.due(name + ", " + call + " once more", Check.outcome(() -> action.on(tower)), first);
        Check.dueSame(name + ", behind " + call, Story.of(tower), story);
    }

    private void askOfRingers() {
        for (int ringer = 0; ringer < ringers; ringer++) {
            int one = ringer;
            for (int what = 0; what <= 7; what++) {
                int asked = what;
                asks("told(" + one + ", " + what + ")", t -> t.told(one, asked));
            }
            for (int days : new int[] {1, 2, 9, 60}) {
                for (int what = 3; what <= 5; what++) {
                    int asked = what;
                    asks("foresee(" + one + ", " + days + ", " + what + ")", t -> t.foresee(one, days, asked));
                }
            }
        }
    }

    private void askOfBands() {
        for (int band = 0; band < 3; band++) {
            int one = band;
            for (int bell = 0; bell < 6; bell++) {
                int two = bell;
                for (int what = 0; what <= 2; what++) {
                    int asked = what;
                    asks("bell(" + band + ", " + bell + ", " + what + ")", t -> t.bell(one, two, asked));
                }
            }
            asks("advise(" + band + ")", t -> t.advise(one));
        }
    }

    private void askOfMethods() {
        for (int method = 0; method < methods; method++) {
            int one = method;
            for (int what = 0; what <= 5; what++) {
                int asked = what;
                asks("about(" + method + ", " + what + ")", t -> t.about(one, asked));
                asks("dodges(" + method + ", " + what + ")", t -> t.dodges(one, asked));
            }
            for (int changes : new int[] {0, 1, 12, 200}) {
                asks("row(" + method + ", " + changes + ")", t -> t.row(one, changes));
            }
            for (int leads : new int[] {1, 2, 6, 12}) {
                for (int band = 0; band < 3; band++) {
                    int two = band;
                    asks("would(" + band + ", " + method + ", " + leads + ")", t -> t.would(two, one, leads));
                }
            }
        }
    }

    private void askOfAll() {
        for (int what = 0; what <= 8; what++) {
            int asked = what;
            asks("count(" + what + ")", t -> t.count(asked));
        }
        asks("mean()", t -> Double.doubleToLongBits(t.mean()));
        asks("digest()", BellRoster::digest);
    }
}
