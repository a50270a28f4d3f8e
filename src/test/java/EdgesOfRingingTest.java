/**
 * Promises 15 to 18: each sentence of the document that names a bound, above its test. What is refused stands in
 * RefusedCallsTest.
 */
final class EdgesOfRingingTest {
    private EdgesOfRingingTest() {
    }

    public static void main(String[] args) {
        emptyMethodCannotBeRung();
        eachBellNeedsRinger();
        tiredByLessThanFifteen();
        otherRingersMayBeTired();
        tiredOnTheWay();
        tiredAtMostTwenty();
        firstChangeOfEachTouch();
        faultBeyondTwiceTheSkill();
        faultsGoOnAtTwenty();
        falseRowsOfTouches();
        longestTouches();
        votesMoreAreHeld();
        votesLessAreHeld();
        votesNoneLess();
        votesHeldBehindAllIsAdded();
        ownFaultsOfThisTouch();
        wouldAsRingDoes();
        wouldLeastAndMost();
        wouldCannot();
        adviseNone();
        adviseMoreThanZero();
        adviseByCourse();
        adviseTheSmallestNumber();
        countNothing();
        countAll();
        countWholeBands();
        countOnlyWhatWasRung();
        Check.finish();
    }

    private static void dueVotes(String what, BellRoster t, int... votes) {
        for (int i = 0; i < votes.length; i++) {
            Check.due(what + ": votes of " + i, t.told(i, 2), votes[i]);
        }
    }

    /** "A band can ring a method, if this is not empty": one change is enough. */
    private static void emptyMethodCannotBeRung() {
        BellRoster t = Towers.withBand(5, 50);
        t.method();
        Check.dueThrow("ring an empty one", t, Check.STATE, () -> t.ring(0, 0, 1));
        Check.dueThrow("ring 12 leads of an empty one", t, Check.STATE, () -> t.ring(0, 0, 12));
        Check.due("would of an empty one", t.would(0, 0, 12), -1000);
        t.add(0, 0);
        Check.due("would of one change", t.would(0, 0, 1), 6);
        Check.due("ring one change", t.ring(0, 0, 1), 0);
    }

    /** "each of its bells has a ringer": nobody, all but one, all; of each band. */
    private static void eachBellNeedsRinger() {
        for (int band = 0; band < 3; band++) {
            for (int missing = 0; missing < 6; missing++) {
                BellRoster t = Towers.withBand(5, 50);
                int one = band;
                Towers.addMethod(t, 0);
                for (int i = 0; i < 6; i++) {
                    t.leave(i);
                }
                Check.dueThrow("ring by nobody", t, Check.STATE, () -> t.ring(one, 0, 1));
                for (int i = 0; i < 6; i++) {
                    if (i != missing) {
                        t.put(band, i, 5 - i);
                    }
                }
                Check.dueThrow("ring without the bell " + missing, t, Check.STATE, () -> t.ring(one, 0, 1));
                Check.due("would without the bell " + missing, t.would(band, 0, 1), -1000);
                t.put(band, missing, 5 - missing);
                Check.due("would with all", t.would(band, 0, 1), 6);
                Check.due("ring with all", t.ring(band, 0, 1), 0);
            }
        }
    }

    /** The band 1, with one who is tired by so much at a bell of it, and five who are not tired. */
    private static BellRoster oneTired(int tired, int bell) {
        BellRoster t = Towers.tiredBy(9, tired);
        t.leave(0);
        for (int i = 0; i < 5; i++) {
            t.ringer(3, 5, 50);
        }
        int next = 6;
        for (int i = 0; i < 6; i++) {
            if (i == bell) {
                t.put(1, i, 0);
            } else {
                t.put(1, i, next);
                next++;
            }
        }
        return t;
    }

    /** "who is tired by less than 15": 14 is, 15 is not, each at each bell. */
    private static void tiredByLessThanFifteen() {
        for (int bell = 0; bell < 6; bell++) {
            for (int tired = 0; tired <= 20; tired++) {
                BellRoster t = oneTired(tired, bell);
                String what = "tired by " + tired + " at the bell " + bell;
                Check.due(what, t.told(0, 3), tired);
                if (tired < 15) {
                    Check.due("would, " + what, t.would(1, 0, 1), 0);
                    Check.due("ring, " + what, t.ring(1, 0, 1), 0);
                } else {
                    Check.due("would, " + what, t.would(1, 0, 1), -1000);
                    Check.dueThrow("ring, " + what, t, Check.STATE, () -> t.ring(1, 0, 1));
                }
            }
        }
    }

    /** "each of its bells has a ringer, who is tired by less than 15": its bells, not those of other bands. */
    private static void otherRingersMayBeTired() {
        BellRoster t = oneTired(20, 3);
        t.leave(0);
        t.ringer(3, 5, 50);
        t.put(1, 3, 11);
        Check.due("a tired one without a bell, one in the band 0", t.ring(1, 0, 1), 0);
        t.put(2, 3, 0);
        Check.due("a tired one in the band 2", t.ring(1, 0, 1), 0);
    }

    /** A touch that can be begun is rung to its end: from 14 to 20. */
    private static void tiredOnTheWay() {
        BellRoster t = Towers.tiredBy(9, 14);
        Check.due("a touch from 14 on", t.ring(0, 0, 12), 10);
        Check.due("its end is 20", t.told(0, 3), 20);
        Check.dueThrow("ring at 20", t, Check.STATE, () -> t.ring(0, 0, 1));
    }

    /** "are tired by 1 more (at most 20)" */
    private static void tiredAtMostTwenty() {
        for (int leads = 1; leads <= 12; leads++) {
            BellRoster t = Towers.tiredBy(9, 14);
            t.ring(0, 0, leads);
            Check.due("tired by 14 and then " + (leads - 1) + " dodges", t.told(0, 3), Math.min(20, 14 + leads - 1));
            Check.due("the other one", t.told(1, 3), Math.min(20, 14 + leads - 1));
            Check.due("who stood", t.told(2, 3), 0);
        }
    }

    /** "by the change ahead of it in the touch": not by that of the touch ahead. */
    private static void firstChangeOfEachTouch() {
        BellRoster t = Towers.withBand(0, 50);
        Towers.addMethod(t, 1);
        t.ring(0, 0, 1);
        t.ring(0, 0, 1);
        Check.due("no dodge by two touches of one change", t.told(0, 3), 0);
        t.ring(0, 0, 2);
        Check.due("one by a touch of two", t.told(0, 3), 1);
        Check.due("one of the other one", t.told(1, 3), 1);
    }

    /** "and then have a fault more, if they are tired by more than twice their skill": skill 0 to 9. */
    private static void faultBeyondTwiceTheSkill() {
        for (int skill = 0; skill <= 9; skill++) {
            BellRoster t = Towers.tiredBy(skill, 2 * skill);
            Check.due("no fault at twice the skill " + skill, t.told(0, 6), 0);
            t = Towers.tiredBy(skill, 2 * skill + 1);
            Check.due("a fault at one more than twice " + skill, t.told(0, 6), 1);
            Check.due("the other one's", t.told(1, 6), 1);
            Check.due("none of who stood", t.told(2, 6), 0);
            Check.due("of all", t.count(7), 2);
        }
    }

    /** "are tired by 1 more (at most 20), and then have a fault more": at 20 too. */
    private static void faultsGoOnAtTwenty() {
        for (int leads = 1; leads <= 12; leads++) {
            BellRoster t = Towers.tiredBy(9, 14);
            t.ring(0, 0, leads);
            // From 14, the 5th dodge makes 19, which is the first that is more than twice 9.
            Check.due("faults by " + (leads - 1) + " dodges from 14", t.told(0, 6), Math.max(0, leads - 1 - 4));
        }
    }

    /** "One of them is false, if it came ahead in the touch; but rounds behind the last change of the touch is not." */
    private static void falseRowsOfTouches() {
        for (int leads = 1; leads <= 12; leads++) {
            BellRoster t = Towers.withBand(9, 50);
            Towers.addMethod(t, 0);
            Towers.addMethod(t, 1);
            Towers.addMethod(t, 1, 2);
            Check.due("rounds and rounds, " + leads, t.ring(0, 0, leads), leads - 1);
            // Rounds and another row in turn: all rows but two come again, and rounds at the end is not false.
            int toAndFro = Math.max(0, leads - 1 - (leads % 2 == 0 ? 1 : 0));
            Check.due("to and fro, " + leads, t.ring(0, 1, leads), toAndFro);
            // Six different rows behind three leads, the last of them rounds; in the midst of a touch this is false.
            int threeLeads = leads < 3 ? 0 : 2 * leads + 1 - 6 - (leads % 3 == 0 ? 1 : 0);
            Check.due("three leads, " + leads, t.ring(0, 2, leads), threeLeads);
        }
    }

    /** "leads is not 1 to 12" and "at most 12 changes": 144 changes of each kind. */
    private static void longestTouches() {
        BellRoster t = Towers.withBand(9, 99);
        Towers.addMethod(t, 0, 0, 0, 0, 0, 0, 0, 0, 0, 0, 0, 0);
        Towers.addMethod(t, 21, 21, 21, 21, 21, 21, 21, 21, 21, 21, 21, 21);
        Check.due("rounds alone", t.ring(0, 0, 12), 143);
        Check.due("nobody is tired", t.told(0, 3), 0);
        dueVotes("143 less than 99", t, 0, 0, 0, 0, 0, 0);
        Check.due("to and fro", t.ring(0, 1, 12), 142);
        for (int i = 0; i < 6; i++) {
            Check.due("tired by 20", t.told(i, 3), 20);
            Check.due("faults of 143 dodges but 18", t.told(i, 6), 125);
        }
        Check.due("false rows of both", t.count(6), 285);
        Check.due("faults of all", t.count(7), 750);
    }

    /** "has as many votes more as the touch has leads, if it has no false row and ends with rounds .. held at 0 to 99" */
    private static void votesMoreAreHeld() {
        for (int votes : new int[] {0, 1, 92, 93, 94, 98, 99}) {
            BellRoster t = Towers.withBand(9, votes);
            Towers.addMethod(t, Towers.PLAIN_HUNT);
            t.ring(0, 0, 6);
            int due = Math.min(99, votes + 6);
            dueVotes(votes + " and 6 leads", t, due, due, due, due, due, due);
        }
        BellRoster t = Towers.withBand(9, 98);
        Towers.addMethod(t, 0);
        t.ring(0, 0, 1);
        dueVotes("98 and one lead", t, 99, 99, 99, 99, 99, 99);
        t.ring(0, 0, 1);
        dueVotes("99 and one lead", t, 99, 99, 99, 99, 99, 99);
    }

    /** "otherwise as many less as it has false rows .. held at 0 to 99" */
    private static void votesLessAreHeld() {
        for (int votes : new int[] {0, 1, 2, 3, 4, 50, 99}) {
            BellRoster t = Towers.withBand(9, votes);
            Towers.addMethod(t, 0);
            t.ring(0, 0, 4);
            int due = Math.max(0, votes - 3);
            dueVotes(votes + " less 3, though it ends with rounds", t, due, due, due, due, due, due);
            t = Towers.withBand(9, votes);
            Towers.addMethod(t, 1);
            t.ring(0, 0, 3);
            due = Math.max(0, votes - 2);
            dueVotes(votes + " less 2, not at rounds", t, due, due, due, due, due, due);
        }
    }

    /** "(none less without any)": no false row, and no rounds at the end. */
    private static void votesNoneLess() {
        for (int votes : new int[] {0, 50, 99}) {
            BellRoster t = Towers.withBand(9, votes);
            Towers.addMethod(t, Towers.PLAIN_HUNT);
            for (int leads = 1; leads <= 5; leads++) {
                Check.due("no false row in " + leads, t.ring(0, 0, leads), 0);
                dueVotes("none more and none less", t, votes, votes, votes, votes, votes, votes);
            }
        }
    }

    /** "and as many less as the own faults in this touch; held at 0 to 99 behind all is added" */
    private static void votesHeldBehindAllIsAdded() {
        for (int votes : new int[] {0, 1, 50, 98, 99}) {
            BellRoster t = Towers.withBand(0, votes);
            Towers.addMethod(t, 1, 1);
            t.ring(0, 0, 1);
            int more = Math.min(99, votes + 1);
            dueVotes(votes + " and 1 lead, less 1 fault", t, votes, votes, more, more, more, more);
            t = Towers.withBand(0, votes);
            Towers.addMethod(t, 1, 1, 2, 2, 1, 1);
            // Rounds twice in the midst of it and 102345 once come again; rounds at its end is not false.
            Check.due("false rows", t.ring(0, 0, 1), 3);
            Check.due("faults of the bell 0", t.told(0, 6), 2);
            Check.due("faults of the bell 1", t.told(1, 6), 3);
            Check.due("faults of the bell 2", t.told(2, 6), 1);
            int[] less = {5, 6, 4, 3, 3, 3};
            for (int i = 0; i < 6; i++) {
                Check.due(votes + " less " + less[i], t.told(i, 2), Math.max(0, votes - less[i]));
            }
        }
    }

    /** "as many less as the own faults in this touch": not those of others, nor those of touches ahead. */
    private static void ownFaultsOfThisTouch() {
        BellRoster t = Towers.withBand(0, 50);
        Towers.addMethod(t, 1, 1);
        Towers.addMethod(t, 0);
        t.ring(0, 0, 1);
        dueVotes("own ones", t, 50, 50, 51, 51, 51, 51);
        t.ring(0, 1, 1);
        dueVotes("none in this touch", t, 51, 51, 52, 52, 52, 52);
        Check.due("faults of both so far", t.count(7), 2);
        t.ring(0, 0, 1);
        dueVotes("one more in this touch", t, 51, 51, 53, 53, 53, 53);
        Check.due("faults so far", t.told(0, 6), 2);
    }

    /** "by how many the votes of the six ringers, added, would be more behind such a touch" for leads 1 to 12 */
    private static void wouldAsRingDoes() {
        for (int tower = 0; tower < 3; tower++) {
            for (int band = 0; band < 3; band++) {
                for (int method = 0; method < 3; method++) {
                    for (int leads = 1; leads <= 12; leads++) {
                        wouldAsRingDoes(tower, band, method, leads);
                    }
                }
            }
        }
    }

    private static void wouldAsRingDoes(int kind, int band, int method, int leads) {
        BellRoster t = kind == 0 ? Towers.busy() : kind == 1 ? Towers.full() : Towers.whole();
        int would = t.would(band, method, leads);
        int before = t.count(8);
        String rung = Check.outcome(() -> t.ring(band, method, leads));
        boolean refused = rung.endsWith("IllegalStateException");
        String what = "would(" + band + ", " + method + ", " + leads + ") on the tower " + kind;
        Check.due(what, would, refused ? -1000 : t.count(8) - before);
    }

    /** "(less than 0, if less)": from all votes of six less to the six leads of each of six more. */
    private static void wouldLeastAndMost() {
        BellRoster high = Towers.withBand(9, 99);
        Towers.addMethod(high, 0, 0, 0, 0, 0, 0, 0, 0, 0, 0, 0, 0);
        Towers.addMethod(high, Towers.PLAIN_HUNT);
        Check.due("all of 99", high.would(0, 0, 12), -594);
        Check.due("no more than 99", high.would(0, 1, 6), 0);
        BellRoster low = Towers.withBand(9, 0);
        Towers.addMethod(low, 0, 0, 0, 0, 0, 0, 0, 0, 0, 0, 0, 0);
        Towers.addMethod(low, Towers.PLAIN_HUNT);
        Check.due("none below 0", low.would(0, 0, 12), 0);
        Check.due("six leads", low.would(0, 1, 6), 36);
        Check.due("twelve leads, false", low.would(0, 1, 12), 0);
    }

    /** "-1000 if the band cannot ring it": for each reason, though others could. */
    private static void wouldCannot() {
        BellRoster t = Towers.full();
        Check.due("a tired band", t.would(0, 0, 1), -1000);
        Check.due("an empty method", t.would(2, 4, 1), -1000);
        Check.due("another band and method", t.would(2, 0, 1) == -1000 ? 1 : 0, 0);
        t.leave(t.bell(2, 5, 1));
        Check.due("a bell without a ringer", t.would(2, 0, 1), -1000);
    }

    /** "-1 if none brings more than 0": no methods, empty ones, no band, a tired band, a bell without a ringer. */
    private static void adviseNone() {
        BellRoster none = new BellRoster();
        for (int band = 0; band < 3; band++) {
            Check.due("nothing at all", none.advise(band), -1);
        }
        BellRoster t = Towers.withBand(9, 50);
        Check.due("no methods", t.advise(0), -1);
        for (int i = 0; i < 5; i++) {
            t.method();
        }
        Check.due("empty ones", t.advise(0), -1);
        t.add(4, 0);
        Check.due("the last one", t.advise(0), 4);
        Check.due("no band", t.advise(1), -1);
        t.leave(5);
        Check.due("a bell without a ringer", t.advise(0), -1);
        Check.due("14 is less than 15", Towers.tiredBy(9, 14).advise(0), 0);
        Check.due("tired by 15", Towers.tiredBy(9, 15).advise(0), -1);
    }

    /** "if none brings more than 0": 0 is not more, 1 is. */
    private static void adviseMoreThanZero() {
        BellRoster t = Towers.withBand(9, 99);
        Towers.addMethod(t, 0);
        Check.due("it brings 0", t.would(0, 0, 1), 0);
        Check.due("0 is not more", t.advise(0), -1);
        t.vote(5, -1);
        Check.due("it brings 1", t.would(0, 0, 1), 1);
        Check.due("1 is more", t.advise(0), 0);
        t.add(0, 0);
        Check.due("it brings less than 0", t.would(0, 0, 1), -6);
        Check.due("less than 0 is not", t.advise(0), -1);
    }

    /** "of which a course brings a band the most votes": a whole course of each, and no more. */
    private static void adviseByCourse() {
        BellRoster t = Towers.withBand(9, 50);
        Towers.addMethod(t, 0);
        Towers.addMethod(t, 1);
        Towers.addMethod(t, 1, 2);
        Towers.addMethod(t, 1, 2, 4, 8, 16);
        Check.due("six leads bring the most", t.advise(0), 3);
        Check.due("they bring 36", t.would(0, 3, 6), 36);
        t.add(3, 16);
        Check.due("five false leads bring less than three true ones", t.advise(0), 2);
        BellRoster edge = Towers.withBand(9, 98);
        Towers.addMethod(edge, 0);
        Towers.addMethod(edge, Towers.PLAIN_HUNT);
        Check.due("one lead brings as much as six to 99", edge.advise(0), 0);
    }

    /** "of several the one with the smallest number" */
    private static void adviseTheSmallestNumber() {
        BellRoster t = Towers.withBand(9, 50);
        t.method();
        Towers.addMethod(t, 0);
        Towers.addMethod(t, 1);
        Towers.addMethod(t, 4);
        Towers.addMethod(t, 16);
        Check.due("the first of three of two leads", t.advise(0), 2);
        t.add(2, 0);
        Check.due("without the first one", t.advise(0), 3);
        t.add(3, 0);
        Check.due("the last one", t.advise(0), 4);
        t.add(4, 0);
        Check.due("then the one of one lead", t.advise(0), 1);
        t.add(0, 0);
        Check.due("an earlier one of one lead", t.advise(0), 0);
    }

    /** Each number that count() tells, where there is nothing yet. */
    private static void countNothing() {
        BellRoster t = new BellRoster();
        for (int what = 0; what <= 8; what++) {
            Check.due("count(" + what + ") of nothing", t.count(what), 0);
        }
    }

    /** Each number that count() tells, where all places are taken. */
    private static void countAll() {
        BellRoster t = new BellRoster();
        for (int i = 0; i < 20; i++) {
            t.ringer(0, 0, 99);
        }
        for (int i = 0; i < 18; i++) {
            t.put(i / 6, i % 6, 19 - i);
        }
        for (int i = 0; i < 5; i++) {
            Towers.addMethod(t, 1);
        }
        for (int band = 0; band < 3; band++) {
            t.ring(band, 4, 3);
        }
        t.pass(60);
        // Three touches of two false rows, and of two dodges of two bells, each of them a fault.
        int[] due = {60, 20, 6, 5, 0, 3, 6, 12, 20 * 99 - 18 * 2 - 12};
        for (int what = 0; what <= 8; what++) {
            Check.due("count(" + what + ") of all", t.count(what), due[what]);
        }
    }

    /** "2 those who ring a bell" and "4 bands of which each bell has a ringer" */
    private static void countWholeBands() {
        BellRoster t = new BellRoster();
        for (int i = 0; i < 20; i++) {
            t.ringer(0, 0, 99);
        }
        for (int i = 0; i < 18; i++) {
            Check.due("who ring", t.count(2), i);
            Check.due("whole bands", t.count(4), i / 6);
            t.put(i / 6, i % 6, i + 2);
        }
        Check.due("18 ring", t.count(2), 18);
        Check.due("three whole bands", t.count(4), 3);
        t.leave(2);
        Check.due("17 ring", t.count(2), 17);
        Check.due("two whole bands", t.count(4), 2);
    }

    /** "5 touches that were rung, 6 false rows of all these, added": not what was refused or only asked. */
    private static void countOnlyWhatWasRung() {
        BellRoster t = Towers.withBand(9, 50);
        Towers.addMethod(t, 0);
        Check.dueThrow("ring by nobody", t, Check.STATE, () -> t.ring(1, 0, 12));
        t.would(0, 0, 12);
        t.advise(0);
        Check.due("none rung yet", t.count(5), 0);
        Check.due("no false rows yet", t.count(6), 0);
        t.ring(0, 0, 1);
        Check.due("one without false rows", t.count(5), 1);
        Check.due("still no false rows", t.count(6), 0);
        t.ring(0, 0, 12);
        Check.due("two", t.count(5), 2);
        Check.due("11 false rows", t.count(6), 11);
        t.ring(0, 0, 3);
        Check.due("three", t.count(5), 3);
        Check.due("13 false rows", t.count(6), 13);
    }
}
