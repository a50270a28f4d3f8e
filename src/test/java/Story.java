import java.util.ArrayList;
import java.util.List;

/** All that a tower tells, and then its answers to calls that change it: if two towers are alike, so are their stories. */
final class Story {
    private final BellRoster tower;
    private final List<String> lines = new ArrayList<>();

    private Story(BellRoster tower) {
        this.tower = tower;
    }

    static List<String> of(BellRoster tower) {
        Story story = new Story(tower);
        story.tellRingers();
        story.tellBands();
        story.tellMethods();
        story.lines.add("mean = " + tower.mean());
        story.add("digest", tower::digest);
        story.goOn();
        return story.lines;
    }

    private void add(String call, Check.Call action) {
        lines.add(call + " = " + Check.outcome(action));
    }

    private void tellRingers() {
        for (int what = 0; what <= 8; what++) {
            int asked = what;
            add("count " + what, () -> tower.count(asked));
        }
        for (int ringer = 0; ringer < tower.count(1); ringer++) {
            int one = ringer;
            for (int what = 0; what <= 7; what++) {
                int asked = what;
                add("told " + ringer + " " + what, () -> tower.told(one, asked));
            }
            add("foresee " + ringer, () -> tower.foresee(one, 2, 3) * 100 + tower.foresee(one, 9, 5));
        }
    }

    private void tellBands() {
        for (int band = 0; band < 3; band++) {
            int one = band;
            for (int bell = 0; bell < 6; bell++) {
                int two = bell;
                for (int what = 0; what <= 2; what++) {
                    int asked = what;
                    add("bell " + band + " " + bell + " " + what, () -> tower.bell(one, two, asked));
                }
            }
            add("advise " + band, () -> tower.advise(one));
        }
    }

    private void tellMethods() {
        for (int method = 0; method < tower.count(3); method++) {
            int one = method;
            for (int what = 0; what <= 5; what++) {
                int asked = what;
                add("about " + method + " " + what, () -> tower.about(one, asked));
            }
            add("row " + method, () -> tower.row(one, 7));
            add("dodges " + method, () -> tower.dodges(one, 0) * 100 + tower.dodges(one, 4));
            add("would " + method, () -> tower.would(0, one, 2) * 1001 + tower.would(1, one, 3));
        }
    }

    private void goOn() {
        for (int band = 0; band < 3; band++) {
            int one = band;
            add("ring " + band, () -> tower.ring(one, 1, 3));
        }
        add("vote", () -> tower.vote(0, 3));
        add("leave", () -> tower.leave(1));
        add("ringer", () -> tower.ringer(2, 5, 60));
        add("method", tower::method);
        add("add 0", () -> tower.add(0, 5));
        add("add 2", () -> tower.add(2, 9));
        add("seat", () -> tower.seat(1, 2, 0));
        add("put", () -> tower.put(2, 3, 2));
        add("elect", () -> tower.elect(1));
        add("pass 1", () -> tower.pass(1));
        add("pass 7", () -> tower.pass(7));
        for (int what = 0; what <= 8; what++) {
            int asked = what;
            add("count " + what + " behind all", () -> tower.count(asked));
        }
        add("digest behind all", tower::digest);
    }
}
