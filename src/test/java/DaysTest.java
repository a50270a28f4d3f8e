/** Promises 19 to 22. */
final class DaysTest {
    private DaysTest() {
    }

    public static void main(String[] args) {
        passRests();
        passElects();
        passComparesTheEnds();
        foresee();
        foreseeThrows();
        mean();
        twentyRingers();
        digest();
        Check.finish();
    }

    private static void passRests() {
        BellRoster t = Towers.withBand(9, 50);
        Towers.addMethod(t, 1, 1, 1, 1, 1, 1, 1);
        t.ring(0, 0, 2);
        t.leave(1);
        Check.due("promise 19: nobody moved", t.pass(1), 0);
        Check.due("promise 19: who rings is less tired by 3", t.told(0, 3), 10);
        Check.due("promise 19: another one by 5", t.told(1, 3), 8);
        t.pass(3);
        Check.due("promise 19: 3 days more", t.told(0, 3), 1);
        Check.due("promise 19: not below 0", t.told(1, 3), 0);
        t.pass(1);
        Check.due("promise 19: not below 0 either", t.told(0, 3), 0);
        Check.due("promise 19: the day", t.count(0), 5);
        Check.dueThrow("pass(0)", t, Check.ARGUMENT, () -> t.pass(0));
        Check.dueThrow("pass(-1)", t, Check.ARGUMENT, () -> t.pass(-1));
        Check.dueThrow("pass(61)", t, Check.ARGUMENT, () -> t.pass(61));
        t.pass(60);
        Check.due("promise 19: 60 days", t.count(0), 65);
    }

    private static void passElects() {
        BellRoster t = new BellRoster();
        t.ringer(0, 0, 10);
        t.ringer(1, 0, 10);
        t.ringer(0, 0, 10);
        t.put(2, 3, 1);
        Check.due("promise 19: the days 0 to 5", t.pass(6), 0);
        Check.due("promise 19: the day 6", t.pass(1), 3);
        Check.due("promise 19: the band 0 is elected first", t.told(0, 5), 0);
        Check.due("promise 19: its bell 4", t.told(2, 5), 4);
        Check.due("promise 19: who rang in the band 2 was not free before", t.told(1, 4), 2);
        Check.due("promise 19: but at another bell now", t.told(1, 5), 1);
        t.leave(0);
        t.vote(2, 1);
        Check.due("promise 19: the days 7 to 12", t.pass(6), 0);
        Check.due("promise 19: the day 13", t.pass(1), 2);
        Check.due("promise 19: the one with more votes", t.told(2, 5), 0);
        Check.due("promise 19: the other one", t.told(0, 5), 4);
    }

    private static void passComparesTheEnds() {
        BellRoster t = new BellRoster();
        for (int i = 0; i < 7; i++) {
            t.ringer(0, 0, i);
        }
        Check.due("promise 19: two bells of each band are for the ward 0", t.pass(60), 6);
        Check.due("promise 19: the last one is left", t.told(0, 4), -1);
        t.vote(0, 9);
        Check.due("promise 19: all move, one of them from no bell, one to none", t.pass(7), 7);
        Check.due("promise 19: the best one", t.told(0, 5), 0);
        Check.due("promise 19: the least one", t.told(1, 5), -1);
    }

    private static void foresee() {
        BellRoster t = Towers.withBand(9, 50);
        Towers.addMethod(t, 1, 1, 1, 1, 1, 1, 1);
        t.ring(0, 0, 2);
        t.ringer(0, 0, 99);
        Check.dueUnchanged("promise 20: tired", t, 10, () -> t.foresee(0, 1, 3));
        Check.dueUnchanged("promise 20: not tired any more", t, 0, () -> t.foresee(0, 5, 3));
        Check.dueUnchanged("promise 20: no bell", t, -1, () -> t.foresee(6, 6, 5));
        Check.dueUnchanged("promise 20: no band", t, -1, () -> t.foresee(6, 6, 4));
        Check.dueUnchanged("promise 20: elected", t, 0, () -> t.foresee(6, 7, 4));
        Check.dueUnchanged("promise 20: to the bell", t, 0, () -> t.foresee(6, 7, 5));
        Check.dueUnchanged("promise 20: at another bell", t, 4, () -> t.foresee(0, 7, 5));
        Check.dueUnchanged("promise 20: in another band", t, 1, () -> t.foresee(4, 7, 4));
        Check.dueUnchanged("promise 20: 60 days", t, 1, () -> t.foresee(4, 60, 4));
        t.pass(7);
        Check.due("promise 20: as it came", t.told(6, 5), 0);
        t.seat(0, 0, 3);
        t.seat(0, 3, 0);
        Check.dueUnchanged("promise 20: with other wards", t, 3, () -> t.foresee(6, 7, 5));
    }

    private static void foreseeThrows() {
        BellRoster t = Towers.withBand(9, 50);
        Check.dueThrow("foresee(-1, 1, 3)", t, Check.INDEX, () -> t.foresee(-1, 1, 3));
        Check.dueThrow("foresee(6, 0, 2)", t, Check.INDEX, () -> t.foresee(6, 0, 2));
        Check.dueThrow("foresee(0, 0, 3)", t, Check.ARGUMENT, () -> t.foresee(0, 0, 3));
        Check.dueThrow("foresee(0, 61, 3)", t, Check.ARGUMENT, () -> t.foresee(0, 61, 3));
        Check.dueThrow("foresee(0, 1, 2)", t, Check.ARGUMENT, () -> t.foresee(0, 1, 2));
        Check.dueThrow("foresee(0, 1, 6)", t, Check.ARGUMENT, () -> t.foresee(0, 1, 6));
    }

    private static void mean() {
        BellRoster t = new BellRoster();
        Check.dueDouble("promise 21: nobody", t.mean(), 0.0);
        t.ringer(0, 9, 0);
        Check.dueDouble("promise 21: nobody rings", t.mean(), 0.0);
        t.ringer(0, 1, 0);
        t.ringer(0, 2, 0);
        t.put(0, 0, 1);
        Check.dueDouble("promise 21: one", t.mean(), 1.0);
        t.put(2, 5, 2);
        Check.dueDouble("promise 21: two of two bands", t.mean(), 1.5);
        t.put(1, 1, 0);
        Check.dueDouble("promise 21: three", t.mean(), 4.0);
        t.ringer(0, 1, 0);
        t.leave(0);
        t.put(1, 1, 3);
        Check.dueDouble("promise 21: no whole number", t.mean(), 4.0 / 3.0);
    }

    /** As many as there can be, so that a step behind the last one would show. */
    private static void twentyRingers() {
        BellRoster t = Towers.withBand(1, 50);
        for (int i = 6; i < 20; i++) {
            t.ringer(i % 4, 1, 30 + i);
        }
        Towers.addMethod(t, 1);
        Check.dueDouble("promise 21: six of twenty", t.mean(), 1.0);
        Check.due("promise 15: twenty are there", t.ring(0, 0, 4), 2);
        Check.due("promise 15: the last one does not ring", t.told(19, 2), 49);
        Check.due("promise 20: the last one, elected", t.foresee(19, 7, 5), 3);
        Check.due("promise 19: how many moved", t.pass(7), 15);
        Check.due("promise 19: the last one, elected", t.told(19, 4), 0);
        Check.due("promise 18: who ring", t.count(2), 16);
        Check.due("promise 18: two bands are whole", t.count(4), 2);
    }

    private static void digest() {
        BellRoster t = Towers.withBand(1, 50);
        t.ringer(2, 3, 77);
        t.method();
        Towers.addMethod(t, Towers.SWAY);
        Towers.addMethod(t, Towers.PLAIN_BOB);
        t.seat(1, 2, 3);
        t.ring(0, 1, 3);
        t.pass(3);
        t.leave(4);
        long d = Towers.digestOf(t, new int[][] {{}, Towers.SWAY, Towers.PLAIN_BOB});
        Check.due("promise 22: what all calls tell", t.digest(), d);
        Check.due("promise 22: the same once more", t.digest(), d);
    }
}
