/** Promises 1 to 9. */
final class RingersAndBandsTest {
    private RingersAndBandsTest() {
    }

    public static void main(String[] args) {
        newObject();
        ringer();
        vote();
        seat();
        elect();
        electTakesOnlyTheFree();
        put();
        leave();
        told();
        bell();
        Check.finish();
    }

    private static void newObject() {
        BellRoster t = new BellRoster();
        for (int what = 0; what <= 8; what++) {
            Check.due("promise 1: count(" + what + ")", t.count(what), 0);
        }
        for (int band = 0; band < 3; band++) {
            for (int bell = 0; bell < 6; bell++) {
                Check.due("promise 1: the ward of " + band + ", " + bell, t.bell(band, bell, 0), bell % 4);
                Check.due("promise 1: the ringer of " + band + ", " + bell, t.bell(band, bell, 1), -1);
                Check.due("promise 1: elected for " + band + ", " + bell, t.bell(band, bell, 2), -1);
            }
        }
        t.ringer(0, 1, 1);
        Check.due("promise 1: another object has no ringers of this one", new BellRoster().count(1), 0);
    }

    private static void ringer() {
        BellRoster t = new BellRoster();
        Check.due("promise 2: the first", t.ringer(0, 0, 0), 0);
        Check.due("promise 2: the edges", t.ringer(3, 9, 99), 1);
        int[] told = {3, 9, 99, 0, -1, -1, 0, 1};
        for (int what = 0; what < told.length; what++) {
            Check.due("promise 2: told(1, " + what + ")", t.told(1, what), told[what]);
        }
        Check.dueThrow("ringer(-1, 0, 0)", t, Check.INDEX, () -> t.ringer(-1, 0, 0));
        Check.dueThrow("ringer(4, 10, 100)", t, Check.INDEX, () -> t.ringer(4, 10, 100));
        Check.dueThrow("ringer(0, -1, 0)", t, Check.ARGUMENT, () -> t.ringer(0, -1, 0));
        Check.dueThrow("ringer(0, 10, 0)", t, Check.ARGUMENT, () -> t.ringer(0, 10, 0));
        Check.dueThrow("ringer(0, 0, -1)", t, Check.ARGUMENT, () -> t.ringer(0, 0, -1));
        Check.dueThrow("ringer(0, 0, 100)", t, Check.ARGUMENT, () -> t.ringer(0, 0, 100));
        for (int i = 2; i < 20; i++) {
            Check.due("promise 2: the number", t.ringer(i % 4, i % 10, i), i);
        }
        Check.dueThrow("the 21st ringer", t, Check.STATE, () -> t.ringer(0, 0, 0));
        Check.dueThrow("the 21st ringer of no ward", t, Check.INDEX, () -> t.ringer(4, 0, 0));
        Check.dueThrow("the 21st ringer without skill", t, Check.ARGUMENT, () -> t.ringer(0, -1, 0));
    }

    private static void vote() {
        BellRoster t = new BellRoster();
        Check.dueThrow("vote(0, 0) without ringers", t, Check.INDEX, () -> t.vote(0, 0));
        t.ringer(0, 5, 50);
        Check.due("promise 3: more", t.vote(0, 7), 57);
        Check.due("promise 3: less", t.vote(0, -17), 40);
        Check.due("promise 3: kept", t.told(0, 2), 40);
        Check.due("promise 3: to the top", t.vote(0, 59), 99);
        Check.due("promise 3: held at 99", t.vote(0, 99), 99);
        Check.due("promise 3: to the bottom", t.vote(0, -99), 0);
        Check.due("promise 3: held at 0", t.vote(0, -1), 0);
        Check.dueThrow("vote(0, 100)", t, Check.ARGUMENT, () -> t.vote(0, 100));
        Check.dueThrow("vote(0, -100)", t, Check.ARGUMENT, () -> t.vote(0, -100));
        Check.dueThrow("vote(0, the least int)", t, Check.ARGUMENT, () -> t.vote(0, Integer.MIN_VALUE));
        Check.dueThrow("vote(1, 100)", t, Check.INDEX, () -> t.vote(1, 100));
        Check.dueThrow("vote(-1, 0)", t, Check.INDEX, () -> t.vote(-1, 0));
    }

    private static void seat() {
        BellRoster t = new BellRoster();
        Check.due("promise 4: the first ward", t.seat(2, 5, 3), 1);
        Check.due("promise 4: the ward before", t.seat(2, 5, 0), 3);
        Check.due("promise 4: the ward now", t.bell(2, 5, 0), 0);
        Check.due("promise 4: of another band", t.bell(1, 5, 0), 1);
        t.ringer(1, 1, 1);
        t.put(0, 1, 0);
        t.seat(0, 1, 2);
        Check.due("promise 4: the ringer stays", t.bell(0, 1, 1), 0);
        Check.dueThrow("seat(-1, 0, 0)", t, Check.INDEX, () -> t.seat(-1, 0, 0));
        Check.dueThrow("seat(3, 0, 0)", t, Check.INDEX, () -> t.seat(3, 0, 0));
        Check.dueThrow("seat(0, -1, 0)", t, Check.INDEX, () -> t.seat(0, -1, 0));
        Check.dueThrow("seat(0, 6, 0)", t, Check.INDEX, () -> t.seat(0, 6, 0));
        Check.dueThrow("seat(0, 0, -1)", t, Check.INDEX, () -> t.seat(0, 0, -1));
        Check.dueThrow("seat(0, 0, 4)", t, Check.INDEX, () -> t.seat(0, 0, 4));
    }

    private static void elect() {
        BellRoster t = new BellRoster();
        Check.due("promise 5: nobody", t.elect(0), 0);
        t.ringer(0, 0, 5);
        t.ringer(0, 0, 9);
        t.ringer(0, 0, 9);
        t.ringer(1, 0, 0);
        Check.due("promise 5: of two wards", t.elect(0), 3);
        Check.due("promise 5: the smallest number of the most votes", t.bell(0, 0, 1), 1);
        Check.due("promise 5: the next one for the bell 4", t.bell(0, 4, 1), 2);
        Check.due("promise 5: one without votes is elected too", t.bell(0, 1, 1), 3);
        Check.due("promise 5: none left for the bell 5", t.bell(0, 5, 1), -1);
        t.vote(0, 94);
        Check.due("promise 5: once more", t.elect(0), 3);
        Check.due("promise 5: now another one has the most", t.bell(0, 0, 1), 0);
        Check.due("promise 5: who rang there is behind", t.bell(0, 4, 1), 1);
        Check.due("promise 5: and one rings no more", t.told(2, 4), -1);
        Check.dueThrow("elect(-1)", t, Check.INDEX, () -> t.elect(-1));
        Check.dueThrow("elect(3)", t, Check.INDEX, () -> t.elect(3));
    }

    private static void electTakesOnlyTheFree() {
        BellRoster t = new BellRoster();
        t.ringer(2, 0, 90);
        t.ringer(2, 0, 10);
        t.put(1, 0, 0);
        Check.due("promise 5: one of another band is not free", t.elect(0), 1);
        Check.due("promise 5: the free one", t.bell(0, 2, 1), 1);
        Check.due("promise 5: the other band is as it was", t.bell(1, 0, 1), 0);
        Check.due("promise 5: one of whatever ward leaves the bell", t.elect(1), 1);
        Check.due("promise 5: and rings where the ward elects", t.told(0, 5), 2);
    }

    private static void put() {
        BellRoster t = new BellRoster();
        t.ringer(3, 0, 0);
        t.ringer(3, 0, 0);
        Check.due("promise 6: the ward of the bell, not of the ringer", t.put(2, 5, 0), 1);
        Check.due("promise 6: the band", t.told(0, 4), 2);
        Check.due("promise 6: the bell", t.told(0, 5), 5);
        Check.dueThrow("put to a bell with a ringer", t, Check.STATE, () -> t.put(2, 5, 1));
        Check.dueThrow("put of one who rings", t, Check.STATE, () -> t.put(0, 0, 0));
        Check.dueThrow("put where this one rings", t, Check.STATE, () -> t.put(2, 5, 0));
        Check.dueThrow("put(-1, 0, 1)", t, Check.INDEX, () -> t.put(-1, 0, 1));
        Check.dueThrow("put(3, 0, 0)", t, Check.INDEX, () -> t.put(3, 0, 0));
        Check.dueThrow("put(0, -1, 1)", t, Check.INDEX, () -> t.put(0, -1, 1));
        Check.dueThrow("put(0, 6, 1)", t, Check.INDEX, () -> t.put(0, 6, 1));
        Check.dueThrow("put(2, 5, 2)", t, Check.INDEX, () -> t.put(2, 5, 2));
        Check.dueThrow("put(0, 0, -1)", t, Check.INDEX, () -> t.put(0, 0, -1));
    }

    private static void leave() {
        BellRoster t = new BellRoster();
        t.ringer(0, 0, 0);
        Check.dueThrow("leave of one without a bell", t, Check.STATE, () -> t.leave(0));
        t.put(2, 5, 0);
        Check.due("promise 7: the last bell", t.leave(0), 25);
        Check.due("promise 7: rings none", t.told(0, 4), -1);
        Check.due("promise 7: the bell is free", t.bell(2, 5, 1), -1);
        t.put(0, 0, 0);
        Check.due("promise 7: the first bell", t.leave(0), 0);
        Check.dueThrow("leave once more", t, Check.STATE, () -> t.leave(0));
        Check.dueThrow("leave(1)", t, Check.INDEX, () -> t.leave(1));
        Check.dueThrow("leave(-1)", t, Check.INDEX, () -> t.leave(-1));
    }

    private static void told() {
        BellRoster t = Towers.withBand(1, 50);
        Towers.addMethod(t, 1);
        t.ring(0, 0, 4);
        int[] first = {0, 1, 47, 3, 0, 0, 1, 2};
        for (int what = 0; what < first.length; what++) {
            Check.due("promise 8: told(0, " + what + ")", t.told(0, what), first[what]);
        }
        t.ringer(0, 0, 49);
        t.ringer(0, 0, 47);
        t.ringer(1, 0, 99);
        Check.due("promise 8: the rank of the first", t.told(6, 7), 1);
        Check.due("promise 8: behind one", t.told(4, 7), 2);
        Check.due("promise 8: behind two", t.told(0, 7), 3);
        Check.due("promise 8: the same votes, the same rank", t.told(7, 7), 3);
        Check.due("promise 8: in another ward", t.told(8, 7), 1);
        t.vote(0, 99);
        Check.due("promise 8: behind the ringer 0 too", t.told(6, 7), 2);
        Check.dueThrow("told(0, -1)", t, Check.INDEX, () -> t.told(0, -1));
        Check.dueThrow("told(0, 8)", t, Check.INDEX, () -> t.told(0, 8));
        Check.dueThrow("told(9, 0)", t, Check.INDEX, () -> t.told(9, 0));
        Check.dueThrow("told(-1, 0)", t, Check.INDEX, () -> t.told(-1, 0));
    }

    private static void bell() {
        BellRoster t = new BellRoster();
        t.ringer(0, 0, 10);
        t.ringer(0, 0, 20);
        t.put(0, 0, 0);
        t.put(1, 1, 1);
        Check.due("promise 9: the ward", t.bell(0, 4, 0), 0);
        Check.due("promise 9: the ringer", t.bell(0, 0, 1), 0);
        Check.dueUnchanged("promise 9: one of another band is not free", t, 0, () -> t.bell(0, 0, 2));
        Check.dueUnchanged("promise 9: the band itself would be free", t, 1, () -> t.bell(1, 0, 2));
        Check.due("promise 9: none is left", t.bell(1, 4, 2), -1);
        Check.due("promise 9: of another ward", t.bell(1, 1, 2), -1);
        t.seat(1, 0, 3);
        Check.dueUnchanged("promise 9: the ward elects for it no more", t, -1, () -> t.bell(1, 0, 2));
        Check.dueUnchanged("promise 9: but for the bell 4", t, 1, () -> t.bell(1, 4, 2));
        t.seat(1, 3, 0);
        Check.dueUnchanged("promise 9: the ward elects for the bell 3 now", t, 1, () -> t.bell(1, 3, 2));
        Check.dueThrow("bell(-1, 0, 0)", t, Check.INDEX, () -> t.bell(-1, 0, 0));
        Check.dueThrow("bell(3, 0, 0)", t, Check.INDEX, () -> t.bell(3, 0, 0));
        Check.dueThrow("bell(0, -1, 0)", t, Check.INDEX, () -> t.bell(0, -1, 0));
        Check.dueThrow("bell(0, 6, 0)", t, Check.INDEX, () -> t.bell(0, 6, 0));
        Check.dueThrow("bell(0, 0, -1)", t, Check.INDEX, () -> t.bell(0, 0, -1));
        Check.dueThrow("bell(0, 0, 3)", t, Check.INDEX, () -> t.bell(0, 0, 3));
    }
}
