/** Promises 15 to 18. */
final class RingingTest {
    private RingingTest() {
    }

    public static void main(String[] args) {
        ringTrue();
        ringFalse();
        ringNeitherTrueNorFalse();
        ringFaults();
        ringHoldsVotesBehindAll();
        ringTiresToTwenty();
        ringThrows();
        ringOnlyTheFresh();
        would();
        wouldCannot();
        advise();
        adviseNone();
        count();
        Check.finish();
    }

    private static void dueVotes(String what, BellRoster t, int... votes) {
        for (int i = 0; i < votes.length; i++) {
            Check.due(what + ": votes of " + i, t.told(i, 2), votes[i]);
        }
    }

    private static void ringTrue() {
        BellRoster t = Towers.withBand(0, 50);
        t.ringer(0, 0, 50);
        Towers.addMethod(t, Towers.PLAIN_HUNT);
        Check.due("promise 15: a true course", t.ring(0, 0, 6), 0);
        dueVotes("promise 15: as many more as leads", t, 56, 56, 56, 56, 56, 56, 50);
        Check.due("promise 15: without dodges nobody is tired", t.told(0, 3), 0);
        Towers.addMethod(t, 0);
        Check.due("promise 15: rounds behind the last change", t.ring(0, 1, 1), 0);
        dueVotes("promise 15: one lead", t, 57, 57, 57, 57, 57, 57, 50);
    }

    private static void ringFalse() {
        BellRoster t = Towers.withBand(9, 50);
        Towers.addMethod(t, 1, 1);
        Check.due("promise 15: false rounds and a false row", t.ring(0, 0, 2), 2);
        dueVotes("promise 15: as many less as false rows", t, 48, 48, 48, 48, 48, 48);
        Check.due("promise 15: tired by the dodges", t.told(0, 3), 3);
        Check.due("promise 15: as the other one", t.told(1, 3), 3);
        Check.due("promise 15: who stood is not tired", t.told(2, 3), 0);
        Check.due("promise 15: no faults", t.count(7), 0);
        Towers.addMethod(t, 0);
        Check.due("promise 15: only the last rounds are not false", t.ring(0, 1, 12), 11);
    }

    private static void ringNeitherTrueNorFalse() {
        BellRoster t = Towers.withBand(9, 50);
        Towers.addMethod(t, 1);
        Check.due("promise 15: no false row", t.ring(0, 0, 1), 0);
        dueVotes("promise 15: without rounds at the end", t, 50, 50, 50, 50, 50, 50);
        Check.due("promise 15: false without rounds at the end", t.ring(0, 0, 3), 2);
        dueVotes("promise 15: less", t, 48, 48, 48, 48, 48, 48);
    }

    private static void ringFaults() {
        BellRoster t = new BellRoster();
        for (int i = 0; i < 6; i++) {
            t.ringer(0, i, 50);
            t.put(1, i, i);
        }
        // 5 changes, rounds not at the end: 4 false rows and 4 dodges of each bell.
        Towers.addMethod(t, 21);
        Check.due("promise 15: five leads", t.ring(1, 0, 5), 4);
        int[] faults = {4, 2, 0, 0, 0, 0};
        for (int i = 0; i < 6; i++) {
            Check.due("promise 15: tired " + i, t.told(i, 3), 4);
            Check.due("promise 15: faults " + i, t.told(i, 6), faults[i]);
            Check.due("promise 15: votes " + i, t.told(i, 2), 50 - 4 - faults[i]);
        }
        t.ring(1, 0, 2);
        Check.due("promise 15: faults so far", t.told(0, 6), 5);
        Check.due("promise 15: only the faults of this touch cost votes", t.told(0, 2), 42 + 2 - 1);
        Check.due("promise 15: more than twice the skill", t.told(2, 6), 1);
    }

    private static void ringHoldsVotesBehindAll() {
        BellRoster t = Towers.withBand(0, 99);
        Towers.addMethod(t, 1, 1);
        Check.dueUnchanged("promise 16: all are held", t, 0, () -> t.would(0, 0, 1));
        t.ring(0, 0, 1);
        dueVotes("promise 15: one more and one less", t, 99, 99, 99, 99, 99, 99);
        Check.due("promise 15: one fault each", t.count(7), 2);
        BellRoster low = Towers.withBand(0, 1);
        Towers.addMethod(low, 1, 1);
        Check.dueUnchanged("promise 16: none below 0", low, -6, () -> low.would(0, 0, 2));
        low.ring(0, 0, 2);
        dueVotes("promise 15: held at 0", low, 0, 0, 0, 0, 0, 0);
    }

    private static void ringTiresToTwenty() {
        BellRoster t = Towers.withBand(9, 50);
        Towers.addMethod(t, 1, 1, 1, 1, 1, 1, 1, 1, 1, 1, 1, 1);
        Check.due("promise 15: the longest touch", t.ring(0, 0, 12), 142);
        Check.due("promise 15: tired by 20 at most", t.told(0, 3), 20);
        Check.due("promise 15: a fault by each dodge from the 19th on", t.told(0, 6), 125);
        Check.due("promise 15: votes", t.told(0, 2), 0);
        Check.due("promise 15: faults of one who stood", t.told(5, 6), 0);
    }

    private static void ringThrows() {
        BellRoster t = Towers.withBand(9, 50);
        Towers.addMethod(t, Towers.PLAIN_HUNT);
        t.method();
        Check.dueThrow("ring(-1, 0, 1)", t, Check.INDEX, () -> t.ring(-1, 0, 1));
        Check.dueThrow("ring(3, 0, 0)", t, Check.INDEX, () -> t.ring(3, 0, 0));
        Check.dueThrow("ring(0, 2, 13)", t, Check.INDEX, () -> t.ring(0, 2, 13));
        Check.dueThrow("ring(0, -1, 1)", t, Check.INDEX, () -> t.ring(0, -1, 1));
        Check.dueThrow("ring(0, 0, 0)", t, Check.ARGUMENT, () -> t.ring(0, 0, 0));
        Check.dueThrow("ring(1, 0, 13)", t, Check.ARGUMENT, () -> t.ring(1, 0, 13));
        Check.dueThrow("ring of an empty method", t, Check.STATE, () -> t.ring(0, 1, 1));
        Check.dueThrow("ring by a band of nobody", t, Check.STATE, () -> t.ring(1, 0, 1));
        t.leave(5);
        Check.dueThrow("ring by a band of five", t, Check.STATE, () -> t.ring(0, 0, 1));
        t.put(0, 5, 5);
        Check.due("ring by all six", t.ring(0, 0, 1), 0);
    }

    private static void ringOnlyTheFresh() {
        BellRoster t = Towers.withBand(9, 50);
        Towers.addMethod(t, 1, 1, 1, 1, 1);
        t.ring(0, 0, 3);
        Check.due("promise 15: tired by 14", t.told(1, 3), 14);
        Check.due("promise 15: 14 is not too much", t.ring(0, 0, 1), 4);
        Check.due("promise 15: tired by 18", t.told(1, 3), 18);
        Check.dueThrow("ring, tired by 18", t, Check.STATE, () -> t.ring(0, 0, 1));
        t.pass(1);
        Check.due("promise 15: tired by 15", t.told(1, 3), 15);
        Check.dueThrow("ring, tired by 15", t, Check.STATE, () -> t.ring(0, 0, 1));
        Check.dueUnchanged("promise 16: tired by 15", t, -1000, () -> t.would(0, 0, 1));
        t.leave(0);
        t.leave(1);
        t.put(1, 0, 0);
        t.ringer(0, 9, 50);
        t.ringer(0, 9, 50);
        t.put(0, 0, 6);
        t.put(0, 1, 7);
        Check.due("promise 15: the tired of another band do not matter", t.ring(0, 0, 1), 4);
        Check.due("promise 15: and are not tired more", t.told(0, 3), 15);
    }

    private static void would() {
        BellRoster t = Towers.withBand(1, 50);
        Towers.addMethod(t, Towers.PLAIN_HUNT);
        Towers.addMethod(t, 1);
        Check.dueUnchanged("promise 16: a true course", t, 36, () -> t.would(0, 0, 6));
        Check.dueUnchanged("promise 16: no course", t, 0, () -> t.would(0, 0, 5));
        Check.dueUnchanged("promise 16: false rows and faults", t, -14, () -> t.would(0, 1, 4));
        t.vote(3, 48);
        Check.dueUnchanged("promise 16: held at 99", t, 31, () -> t.would(0, 0, 6));
        int votes = t.count(8);
        t.ring(0, 1, 4);
        Check.due("promise 16: as ring() does it", t.count(8) - votes, -14);
    }

    private static void wouldCannot() {
        BellRoster t = Towers.withBand(9, 50);
        Towers.addMethod(t, Towers.PLAIN_HUNT);
        t.method();
        Check.dueUnchanged("promise 16: an empty method", t, -1000, () -> t.would(0, 1, 1));
        Check.dueUnchanged("promise 16: an empty band", t, -1000, () -> t.would(2, 0, 12));
        t.leave(0);
        Check.dueUnchanged("promise 16: a band of five", t, -1000, () -> t.would(0, 0, 1));
        Check.dueThrow("would(-1, 0, 1)", t, Check.INDEX, () -> t.would(-1, 0, 1));
        Check.dueThrow("would(3, 0, 0)", t, Check.INDEX, () -> t.would(3, 0, 0));
        Check.dueThrow("would(0, 2, 13)", t, Check.INDEX, () -> t.would(0, 2, 13));
        Check.dueThrow("would(0, -1, 1)", t, Check.INDEX, () -> t.would(0, -1, 1));
        Check.dueThrow("would(0, 0, 0)", t, Check.ARGUMENT, () -> t.would(0, 0, 0));
        Check.dueThrow("would(0, 1, 13)", t, Check.ARGUMENT, () -> t.would(0, 1, 13));
    }

    private static void advise() {
        BellRoster t = Towers.withBand(9, 50);
        t.method();
        Check.dueUnchanged("promise 17: only an empty method", t, -1, () -> t.advise(0));
        Towers.addMethod(t, 1, 1);
        Check.dueUnchanged("promise 17: one lead more", t, 1, () -> t.advise(0));
        Towers.addMethod(t, Towers.PLAIN_HUNT);
        Towers.addMethod(t, 10, 21);
        Check.dueUnchanged("promise 17: the smallest number of the best", t, 2, () -> t.advise(0));
        t.add(2, 0);
        Check.dueUnchanged("promise 17: a false course is not the best", t, 3, () -> t.advise(0));
        Check.dueThrow("advise(-1)", t, Check.INDEX, () -> t.advise(-1));
        Check.dueThrow("advise(3)", t, Check.INDEX, () -> t.advise(3));
    }

    private static void adviseNone() {
        BellRoster t = Towers.withBand(9, 99);
        Check.due("promise 17: no methods", t.advise(0), -1);
        Towers.addMethod(t, Towers.PLAIN_HUNT);
        Check.due("promise 17: no more than 99", t.advise(0), -1);
        Check.due("promise 17: a band of nobody", t.advise(1), -1);
        t.vote(0, -1);
        Check.due("promise 17: one more is enough", t.advise(0), 0);
    }

    private static void count() {
        BellRoster t = Towers.withBand(1, 50);
        t.ringer(0, 0, 7);
        Towers.addMethod(t, 1);
        t.ring(0, 0, 4);
        t.ring(0, 0, 1);
        t.pass(2);
        t.put(1, 0, 6);
        int[] all = {2, 7, 7, 1, 1, 2, 2, 2, 293};
        for (int what = 0; what < all.length; what++) {
            Check.due("promise 18: count(" + what + ")", t.count(what), all[what]);
        }
        t.leave(0);
        Check.due("promise 18: who still ring", t.count(2), 6);
        Check.due("promise 18: no band is whole", t.count(4), 0);
        Check.dueThrow("count(-1)", t, Check.INDEX, () -> t.count(-1));
        Check.dueThrow("count(9)", t, Check.INDEX, () -> t.count(9));
    }
}
