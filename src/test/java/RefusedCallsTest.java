/**
 * Each argument at its least and greatest value, right outside of these and far off; each exception of each call, and
 * which of several is thrown; and that a refused call changes nothing that a later call tells.
 */
final class RefusedCallsTest {
    interface Maker {
        BellRoster make();
    }

    interface OnTower {
        long on(BellRoster tower);
    }

    interface WithValue {
        long on(BellRoster tower, int value);
    }

    private static final Class<? extends RuntimeException> INDEX = Check.INDEX;
    private static final Class<? extends RuntimeException> ARGUMENT = Check.ARGUMENT;
    private static final Class<? extends RuntimeException> STATE = Check.STATE;

    private RefusedCallsTest() {
    }

    public static void main(String[] args) {
        boundsOfRingersAndBands();
        boundsOfMethods();
        boundsOfRinging();
        boundsOfDays();
        noSuchRinger();
        noSuchMethod();
        refusedByPlacesTwice();
        refusedByState();
        firstOfRingersAndBands();
        firstOfMethods();
        firstOfRinging();
        firstOfDays();
        Check.finish();
    }

    private static void refused(Maker maker, String call, Class<? extends RuntimeException> due, OnTower action) {
        BellRoster tower = maker.make();
        Check.due(call, Check.outcome(() -> action.on(tower)), due.getName());
        Check.due(call + " once more", Check.outcome(() -> action.on(tower)), due.getName());
        Check.dueSame("behind the refused " + call, Story.of(tower), Story.of(maker.make()));
    }

    private static void taken(Maker maker, String call, OnTower action) {
        BellRoster tower = maker.make();
        String outcome = Check.outcome(() -> action.on(tower));
        Check.due(call + " answered " + outcome + ": a number", outcome.endsWith("Exception") ? 0 : 1, 1);
    }

    private static void bounds(String call, Class<? extends RuntimeException> due, int least, int most, WithValue action) {
        boundsOn(Towers::busy, call, due, least, most, action);
    }

    private static void boundsOn(
            Maker maker, String call, Class<? extends RuntimeException> due, int least, int most, WithValue action) {
        for (int value : new int[] {least, most}) {
            taken(maker, call + " with " + value, t -> action.on(t, value));
        }
        for (int value : new int[] {least - 1, most + 1, Integer.MIN_VALUE, Integer.MAX_VALUE}) {
            refused(maker, call + " with " + value, due, t -> action.on(t, value));
        }
    }

    // The busy tower has the ringers 0 to 8, of whom 8 rings no bell, and the methods 0 to 2, of which 2 is empty.

    private static void boundsOfRingersAndBands() {
        bounds("ringer(ward, 5, 50)", INDEX, 0, 3, (t, v) -> t.ringer(v, 5, 50));
        bounds("ringer(0, skill, 50)", ARGUMENT, 0, 9, (t, v) -> t.ringer(0, v, 50));
        bounds("ringer(0, 5, votes)", ARGUMENT, 0, 99, (t, v) -> t.ringer(0, 5, v));
        bounds("vote(ringer, 1)", INDEX, 0, 8, (t, v) -> t.vote(v, 1));
        bounds("vote(0, more)", ARGUMENT, -99, 99, (t, v) -> t.vote(0, v));
        bounds("seat(band, 1, 1)", INDEX, 0, 2, (t, v) -> t.seat(v, 1, 1));
        bounds("seat(1, bell, 1)", INDEX, 0, 5, (t, v) -> t.seat(1, v, 1));
        bounds("seat(1, 1, ward)", INDEX, 0, 3, (t, v) -> t.seat(1, 1, v));
        bounds("elect(band)", INDEX, 0, 2, (t, v) -> t.elect(v));
        boundsOn(Towers::whole, "leave(ringer)", INDEX, 0, 17, (t, v) -> t.leave(v));
        bounds("told(ringer, 2)", INDEX, 0, 8, (t, v) -> t.told(v, 2));
        bounds("told(3, what)", INDEX, 0, 7, (t, v) -> t.told(3, v));
        bounds("bell(band, 1, 2)", INDEX, 0, 2, (t, v) -> t.bell(v, 1, 2));
        bounds("bell(1, bell, 2)", INDEX, 0, 5, (t, v) -> t.bell(1, v, 2));
        bounds("bell(1, 1, what)", INDEX, 0, 2, (t, v) -> t.bell(1, 1, v));
        boundsOn(RefusedCallsTest::idle, "put(band, 5, 3)", INDEX, 0, 2, (t, v) -> t.put(v, 5, 3));
        boundsOn(RefusedCallsTest::idle, "put(2, bell, 3)", INDEX, 0, 5, (t, v) -> t.put(2, v, 3));
        boundsOn(RefusedCallsTest::idle, "put(2, 5, ringer)", INDEX, 0, 5, (t, v) -> t.put(2, 5, v));
    }

    private static BellRoster idle() {
        BellRoster tower = Towers.withBand(5, 50);
        for (int ringer = 0; ringer < 6; ringer++) {
            tower.leave(ringer);
        }
        return tower;
    }

    private static void boundsOfMethods() {
        bounds("add(method, 5)", INDEX, 0, 2, (t, v) -> t.add(v, 5));
        // Of the numbers to 31 the greatest one without a place in two pairs is 21.
        bounds("add(0, change)", ARGUMENT, 0, 21, (t, v) -> t.add(0, v));
        for (int change : new int[] {-1, 31, 32, 33, 37, 64, 1024, -32, -2}) {
            refused(Towers::busy, "add(0, " + change + ")", ARGUMENT, t -> t.add(0, change));
        }
        bounds("about(method, 3)", INDEX, 0, 2, (t, v) -> t.about(v, 3));
        bounds("about(1, what)", INDEX, 0, 5, (t, v) -> t.about(1, v));
        boundsOn(Towers::whole, "row(method, 7)", INDEX, 0, 2, (t, v) -> t.row(v, 7));
        bounds("row(1, changes)", ARGUMENT, 0, 200, (t, v) -> t.row(1, v));
        bounds("dodges(method, 2)", INDEX, 0, 2, (t, v) -> t.dodges(v, 2));
        bounds("dodges(1, bell)", INDEX, 0, 5, (t, v) -> t.dodges(1, v));
    }

    private static void boundsOfRinging() {
        boundsOn(Towers::whole, "ring(band, 1, 2)", INDEX, 0, 2, (t, v) -> t.ring(v, 1, 2));
        boundsOn(Towers::whole, "ring(1, method, 2)", INDEX, 0, 2, (t, v) -> t.ring(1, v, 2));
        boundsOn(Towers::whole, "ring(1, 1, leads)", ARGUMENT, 1, 12, (t, v) -> t.ring(1, 1, v));
        boundsOn(Towers::whole, "would(band, 1, 2)", INDEX, 0, 2, (t, v) -> t.would(v, 1, 2));
        boundsOn(Towers::whole, "would(1, method, 2)", INDEX, 0, 2, (t, v) -> t.would(1, v, 2));
        boundsOn(Towers::whole, "would(1, 1, leads)", ARGUMENT, 1, 12, (t, v) -> t.would(1, 1, v));
        bounds("advise(band)", INDEX, 0, 2, (t, v) -> t.advise(v));
        bounds("count(what)", INDEX, 0, 8, (t, v) -> t.count(v));
    }

    private static void boundsOfDays() {
        bounds("pass(days)", ARGUMENT, 1, 60, (t, v) -> t.pass(v));
        bounds("foresee(ringer, 4, 5)", INDEX, 0, 8, (t, v) -> t.foresee(v, 4, 5));
        bounds("foresee(1, days, 3)", ARGUMENT, 1, 60, (t, v) -> t.foresee(1, v, 3));
        bounds("foresee(1, 4, what)", ARGUMENT, 3, 5, (t, v) -> t.foresee(1, 4, v));
    }

    /** "if there is no such ringer": nobody yet, one, and all 20. */
    private static void noSuchRinger() {
        for (int count : new int[] {0, 1, 20}) {
            Maker maker = () -> {
                BellRoster tower = new BellRoster();
                for (int i = 0; i < count; i++) {
                    tower.ringer(0, 5, 50);
                }
                return tower;
            };
            for (int ringer : new int[] {-1, count, count + 1, 100}) {
                String of = "(" + ringer + ") with " + count;
                refused(maker, "vote" + of, INDEX, t -> t.vote(ringer, 1));
                refused(maker, "put" + of, INDEX, t -> t.put(0, 0, ringer));
                refused(maker, "leave" + of, INDEX, t -> t.leave(ringer));
                refused(maker, "told" + of, INDEX, t -> t.told(ringer, 0));
                refused(maker, "foresee" + of, INDEX, t -> t.foresee(ringer, 1, 3));
            }
            if (count > 0) {
                taken(maker, "vote of the last", t -> t.vote(count - 1, 1));
                taken(maker, "put of the last", t -> t.put(0, 0, count - 1));
                taken(maker, "told of the last", t -> t.told(count - 1, 0));
                taken(maker, "foresee of the last", t -> t.foresee(count - 1, 1, 3));
                taken(maker, "leave of the last", t -> t.put(0, 0, count - 1) + t.leave(count - 1));
            }
        }
    }

    /** "if there is no such method": none yet, one, and all five. */
    private static void noSuchMethod() {
        for (int count : new int[] {0, 1, 5}) {
            Maker maker = () -> {
                BellRoster tower = Towers.withBand(5, 50);
                for (int i = 0; i < count; i++) {
                    Towers.addMethod(tower, 1);
                }
                return tower;
            };
            for (int method : new int[] {-1, count, count + 1, 100}) {
                String of = "(" + method + ") with " + count;
                refused(maker, "add" + of, INDEX, t -> t.add(method, 1));
                refused(maker, "about" + of, INDEX, t -> t.about(method, 0));
                refused(maker, "row" + of, INDEX, t -> t.row(method, 0));
                refused(maker, "dodges" + of, INDEX, t -> t.dodges(method, 0));
                refused(maker, "ring" + of, INDEX, t -> t.ring(0, method, 1));
                refused(maker, "would" + of, INDEX, t -> t.would(0, method, 1));
            }
            if (count > 0) {
                taken(maker, "add to the last", t -> t.add(count - 1, 1));
                taken(maker, "about the last", t -> t.about(count - 1, 0));
                taken(maker, "row of the last", t -> t.row(count - 1, 0));
                taken(maker, "dodges of the last", t -> t.dodges(count - 1, 0));
                taken(maker, "ring of the last", t -> t.ring(0, count - 1, 1));
                taken(maker, "would of the last", t -> t.would(0, count - 1, 1));
            }
        }
    }

    /** "no place may be in two of these pairs (so not 3, and not 6)": each number to 31 that has neighbours. */
    private static void refusedByPlacesTwice() {
        int allowed = 0;
        for (int change = 0; change <= 31; change++) {
            int tried = change;
            boolean twice = false;
            for (int pair = 1; pair < 16; pair *= 2) {
                twice |= change / pair % 2 == 1 && change / pair / 2 % 2 == 1;
            }
            if (twice) {
                refused(Towers::busy, "add(2, " + change + ")", ARGUMENT, t -> t.add(2, tried));
            } else {
                taken(Towers::busy, "add(2, " + change + ")", t -> t.add(2, tried));
                allowed++;
            }
        }
        Check.due("how many changes there are", allowed, 13);
    }

    private static void refusedByState() {
        refused(Towers::full, "the 21st ringer", STATE, t -> t.ringer(0, 0, 0));
        refused(Towers::full, "the 6th method", STATE, t -> t.method());
        refused(Towers::full, "the 13th change", STATE, t -> t.add(0, 0));
        refused(Towers::busy, "put to a bell with a ringer", STATE, t -> t.put(0, 0, 8));
        refused(Towers::busy, "put to a bell with a ringer of band 1", STATE, t -> t.put(1, 4, 8));
        refused(Towers::busy, "put of one who rings, elsewhere in the band", STATE, t -> t.put(1, 0, 0));
        refused(Towers::busy, "put of one who rings, in another band", STATE, t -> t.put(2, 5, 0));
        refused(Towers::busy, "put of one who rings there", STATE, t -> t.put(1, 4, 0));
        refused(Towers::busy, "put of one who rings to the bell of another", STATE, t -> t.put(1, 1, 0));
        refused(Towers::busy, "leave of one who rings none", STATE, t -> t.leave(8));
        refused(RefusedCallsTest::idle, "leave of one who has left", STATE, t -> t.leave(1));
        refused(Towers::busy, "row of an empty method", STATE, t -> t.row(2, 0));
        refused(Towers::busy, "row 200 of an empty method", STATE, t -> t.row(2, 200));
        refused(Towers::busy, "ring of an empty method", STATE, t -> t.ring(0, 2, 1));
        refused(Towers::busy, "ring by two", STATE, t -> t.ring(1, 1, 12));
        refused(Towers::busy, "ring by nobody", STATE, t -> t.ring(2, 1, 1));
        refused(Towers::full, "ring by a tired band", STATE, t -> t.ring(0, 1, 1));
    }

    private static void firstOfRingersAndBands() {
        refused(Towers::busy, "ringer: ward ahead of skill", INDEX, t -> t.ringer(4, 10, 50));
        refused(Towers::busy, "ringer: ward ahead of votes", INDEX, t -> t.ringer(-1, 5, 100));
        refused(Towers::full, "ringer: ward ahead of 20", INDEX, t -> t.ringer(4, 5, 50));
        refused(Towers::full, "ringer: ward ahead of all", INDEX, t -> t.ringer(-1, -1, -1));
        refused(Towers::full, "ringer: skill ahead of 20", ARGUMENT, t -> t.ringer(0, 10, 50));
        refused(Towers::full, "ringer: votes ahead of 20", ARGUMENT, t -> t.ringer(0, 5, -1));
        refused(Towers::busy, "vote: the ringer ahead of more", INDEX, t -> t.vote(9, 100));
        refused(BellRoster::new, "vote: no ringer ahead of more", INDEX, t -> t.vote(0, -100));
        refused(Towers::busy, "put: band ahead of one who rings", INDEX, t -> t.put(3, 0, 0));
        refused(Towers::busy, "put: bell ahead of one who rings", INDEX, t -> t.put(0, 6, 0));
        refused(Towers::busy, "put: no such ringer ahead of a bell with one", INDEX, t -> t.put(0, 0, 9));
        refused(BellRoster::new, "leave: no ringer at all", INDEX, t -> t.leave(0));
    }

    private static void firstOfMethods() {
        refused(Towers::busy, "add: the method ahead of 32", INDEX, t -> t.add(3, 32));
        refused(Towers::busy, "add: the method ahead of 3", INDEX, t -> t.add(-1, 3));
        refused(Towers::full, "add: 32 ahead of 12", ARGUMENT, t -> t.add(0, 32));
        refused(Towers::full, "add: 3 ahead of 12", ARGUMENT, t -> t.add(0, 3));
        refused(Towers::full, "add: -1 ahead of 12", ARGUMENT, t -> t.add(0, -1));
        refused(Towers::busy, "row: the method ahead of 201", INDEX, t -> t.row(3, 201));
        refused(Towers::busy, "row: 201 ahead of an empty method", ARGUMENT, t -> t.row(2, 201));
        refused(Towers::busy, "row: -1 ahead of an empty method", ARGUMENT, t -> t.row(2, -1));
    }

    private static void firstOfRinging() {
        refused(Towers::busy, "ring: band ahead of leads", INDEX, t -> t.ring(3, 1, 0));
        refused(Towers::busy, "ring: band ahead of an empty method", INDEX, t -> t.ring(-1, 2, 1));
        refused(Towers::busy, "ring: the method ahead of leads", INDEX, t -> t.ring(0, 3, 13));
        refused(Towers::busy, "ring: the method ahead of a band of nobody", INDEX, t -> t.ring(2, 3, 1));
        refused(Towers::busy, "ring: the method ahead of all", INDEX, t -> t.ring(2, -1, 0));
        refused(Towers::busy, "ring: leads ahead of an empty method", ARGUMENT, t -> t.ring(0, 2, 0));
        refused(Towers::busy, "ring: leads ahead of a band of nobody", ARGUMENT, t -> t.ring(2, 1, 13));
        refused(Towers::full, "ring: leads ahead of a tired band", ARGUMENT, t -> t.ring(0, 1, 0));
        refused(Towers::busy, "would: band ahead of leads", INDEX, t -> t.would(3, 1, 0));
        refused(Towers::busy, "would: the method ahead of leads", INDEX, t -> t.would(0, 3, 13));
        refused(Towers::busy, "would: the method, though the band cannot ring", INDEX, t -> t.would(2, 3, 1));
        refused(Towers::busy, "would: leads, though the method is empty", ARGUMENT, t -> t.would(0, 2, 0));
        refused(Towers::busy, "would: leads, though the band cannot ring", ARGUMENT, t -> t.would(2, 1, 13));
    }

    private static void firstOfDays() {
        refused(Towers::busy, "foresee: the ringer ahead of days", INDEX, t -> t.foresee(9, 0, 3));
        refused(Towers::busy, "foresee: the ringer ahead of what", INDEX, t -> t.foresee(-1, 1, 6));
        refused(BellRoster::new, "foresee: no ringer ahead of both", INDEX, t -> t.foresee(0, 61, 2));
        refused(Towers::busy, "foresee: days and what", ARGUMENT, t -> t.foresee(0, 61, 2));
    }
}
