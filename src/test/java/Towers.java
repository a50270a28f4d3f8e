/** Towers that the tests begin with. */
final class Towers {
    static final int[] PLAIN_BOB = {21, 10, 21, 10, 21, 10, 21, 10, 21, 10, 21, 20};
    static final int[] PLAIN_HUNT = {21, 10};
    static final int[] SWAY = {17, 0, 17, 17};

    private Towers() {
    }

    static int addMethod(BellRoster tower, int... changes) {
        int method = tower.method();
        for (int change : changes) {
            tower.add(method, change);
        }
        return method;
    }

    /** Six ringers, 0 to 5, put to the bells 0 to 5 of the band 0, all with this skill and these votes. */
    static BellRoster withBand(int skill, int votes) {
        BellRoster tower = new BellRoster();
        for (int i = 0; i < 6; i++) {
            tower.ringer(i % 4, skill, votes);
            tower.put(0, i, i);
        }
        return tower;
    }

    /**
     * The band 0 with six ringers of this skill and 50 votes ahead of all; those at its bells 0 and 1 are tired by so
     * much, 0 to 20. The method 0 is the change 1 alone: by it, these two dodge at each change of a touch but the first.
     */
    static BellRoster tiredBy(int skill, int tired) {
        BellRoster tower = withBand(skill, 50);
        addMethod(tower, 1);
        int left = tired;
        while (left > 0) {
            int dodges = Math.min(11, left);
            tower.ring(0, 0, dodges + 1);
            left -= dodges;
        }
        return tower;
    }

    /** 18 ringers, three whole bands, of whom nobody is tired, and three methods, none of them empty. */
    static BellRoster whole() {
        BellRoster tower = new BellRoster();
        for (int i = 0; i < 18; i++) {
            tower.ringer(i % 4, 5, 50);
            tower.put(i / 6, i % 6, i);
        }
        addMethod(tower, PLAIN_HUNT);
        addMethod(tower, SWAY);
        addMethod(tower, 1);
        return tower;
    }

    /** 9 ringers, a whole band, a band of two, three methods, the last one of them empty, and the day 5. */
    static BellRoster busy() {
        BellRoster tower = new BellRoster();
        for (int i = 0; i < 9; i++) {
            tower.ringer(i % 4, i, 40 + 7 * i);
        }
        for (int i = 0; i < 6; i++) {
            tower.put(0, i, i + 1);
        }
        tower.put(1, 4, 0);
        tower.put(1, 1, 7);
        tower.seat(0, 3, 0);
        addMethod(tower, PLAIN_HUNT);
        addMethod(tower, SWAY);
        tower.method();
        tower.pass(5);
        tower.ring(0, 1, 2);
        return tower;
    }

    /** 20 ringers, three whole bands, of which the first one is too tired, five methods, one of them of 12 changes. */
    static BellRoster full() {
        BellRoster tower = new BellRoster();
        for (int i = 0; i < 20; i++) {
            tower.ringer(i < 18 ? i % 6 % 4 : i - 16, i % 10, 30 + 3 * i);
        }
        for (int band = 0; band < 3; band++) {
            tower.elect(band);
        }
        addMethod(tower, PLAIN_BOB);
        addMethod(tower, 1);
        addMethod(tower, SWAY);
        addMethod(tower, PLAIN_HUNT);
        tower.method();
        tower.pass(5);
        tower.ring(0, 1, 12);
        tower.ring(0, 1, 8);
        tower.ring(1, 2, 3);
        return tower;
    }

    /** The document's checksum, by what the other calls tell; the changes of each method are given. */
    static long digestOf(BellRoster t, int[]... methods) {
        long d = 1237;
        for (int what = 0; what < 9; what++) {
            d = d * 31 + t.count(what);
        }
        int ringers = t.count(1);
        for (int ringer = 0; ringer < ringers; ringer++) {
            for (int what = 0; what < 8; what++) {
                d = d * 31 + t.told(ringer, what);
            }
        }
        for (int band = 0; band < 3; band++) {
            for (int bell = 0; bell < 6; bell++) {
                for (int what = 0; what < 3; what++) {
                    d = d * 31 + t.bell(band, bell, what);
                }
            }
        }
        for (int method = 0; method < methods.length; method++) {
            for (int what = 0; what < 6; what++) {
                d = d * 31 + t.about(method, what);
            }
            for (int change : methods[method]) {
                d = d * 31 + change;
            }
            for (int bell = 0; bell < 6; bell++) {
                d = d * 31 + t.dodges(method, bell);
            }
        }
        return d;
    }
}
