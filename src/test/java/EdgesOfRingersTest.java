/**
 * Promises 1 to 9: each sentence of the document that names a bound, above its test. What is refused stands in
 * RefusedCallsTest.
 */
final class EdgesOfRingersTest {
    private EdgesOfRingersTest() {
    }

    public static void main(String[] args) {
        nothingYet();
        wardsAtFirst();
        ringerAtFirst();
        ringersAreNumbered();
        leastAndGreatestRinger();
        votesHeld();
        votesHeldAreForgotten();
        wardBefore();
        wardFromNowOn();
        electNobody();
        electSomeBells();
        electedOutOfAllBands();
        electLeavesOneOfAnotherWard();
        electWithoutOthersWhoRing();
        electTheMostVotes();
        electFromBellZeroOn();
        electAllThree();
        putWhateverWard();
        putAndLeaveEachBell();
        putAgain();
        leaveOutOfElection();
        toldWithoutBell();
        rankFromFirstToLast();
        bellWithoutRinger();
        bellIfElected();
        Check.finish();
    }

    private static BellRoster withWard(int ward, int... votes) {
        BellRoster t = new BellRoster();
        for (int some : votes) {
            t.ringer(ward, 5, some);
        }
        return t;
    }

    private static void setWards(BellRoster t, int band, int ward) {
        for (int bell = 0; bell < 6; bell++) {
            t.seat(band, bell, ward);
        }
    }

    private static void dueRingers(String what, BellRoster t, int band, int... ringers) {
        for (int bell = 0; bell < 6; bell++) {
            Check.due(what + ": at the bell " + bell, t.bell(band, bell, 1), ringers[bell]);
        }
    }

    /** "Creates a tower without ringers and methods, on the day 0." */
    private static void nothingYet() {
        BellRoster t = new BellRoster();
        Check.due("the day at first", t.count(0), 0);
        Check.due("ringers at first", t.count(1), 0);
        Check.due("methods at first", t.count(3), 0);
        Check.dueThrow("the ringer 0 at first", t, Check.INDEX, () -> t.told(0, 0));
        Check.dueThrow("the method 0 at first", t, Check.INDEX, () -> t.about(0, 0));
        t.ringer(0, 0, 0);
        t.method();
        t.pass(3);
        BellRoster other = new BellRoster();
        Check.due("the day of another one", other.count(0), 0);
        Check.due("ringers of another one", other.count(1), 0);
        Check.due("methods of another one", other.count(3), 0);
    }

    /** "each of these a ward that elects its ringer (the remainder of the bell by 4, at first)" */
    private static void wardsAtFirst() {
        BellRoster t = new BellRoster();
        int[] wards = {0, 1, 2, 3, 0, 1};
        for (int band = 0; band < 3; band++) {
            for (int bell = 0; bell < 6; bell++) {
                Check.due("the ward at first of " + band + ", " + bell, t.bell(band, bell, 0), wards[bell]);
            }
        }
    }

    /** "is tired by 0 (at first) to 20, has faults (0, at first), and rings a bell of a band, or none (at first)" */
    private static void ringerAtFirst() {
        BellRoster t = withWard(1, 50);
        Check.due("tired at first", t.told(0, 3), 0);
        Check.due("the band at first", t.told(0, 4), -1);
        Check.due("the bell at first", t.told(0, 5), -1);
        Check.due("faults at first", t.told(0, 6), 0);
    }

    /** "There are at most 20, numbered likewise" */
    private static void ringersAreNumbered() {
        BellRoster t = new BellRoster();
        for (int i = 0; i < 20; i++) {
            Check.due("the number of the next ringer", t.ringer(i % 4, i % 10, i), i);
            Check.due("ringers then", t.count(1), i + 1);
        }
        Check.dueThrow("the 21st", t, Check.STATE, () -> t.ringer(0, 0, 0));
        Check.due("ringers behind the 21st", t.count(1), 20);
        for (int i = 0; i < 20; i++) {
            Check.due("the ward of " + i, t.told(i, 0), i % 4);
            Check.due("the skill of " + i, t.told(i, 1), i % 10);
            Check.due("the votes of " + i, t.told(i, 2), i);
        }
    }

    /** "each is of a ward, 0 to 3, has skill, 0 to 9, and votes, 0 to 99" */
    private static void leastAndGreatestRinger() {
        BellRoster t = new BellRoster();
        for (int ward : new int[] {0, 3}) {
            for (int skill : new int[] {0, 9}) {
                for (int votes : new int[] {0, 99}) {
                    int number = t.ringer(ward, skill, votes);
                    Check.due("the ward " + ward, t.told(number, 0), ward);
                    Check.due("the skill " + skill, t.told(number, 1), skill);
                    Check.due("the votes " + votes, t.told(number, 2), votes);
                }
            }
        }
    }

    /** "Returns the votes then, held at 0 to 99." */
    private static void votesHeld() {
        int[][] beginMoreThen = {
            {0, -1, 0}, {0, -99, 0}, {0, 0, 0}, {0, 1, 1}, {0, 98, 98}, {0, 99, 99},
            {1, -1, 0}, {1, -2, 0}, {1, 98, 99}, {1, 99, 99}, {50, 48, 98}, {50, 49, 99}, {50, 50, 99},
            {50, -49, 1}, {50, -50, 0}, {50, -51, 0}, {98, 1, 99}, {98, 2, 99}, {98, -98, 0}, {98, -99, 0},
            {99, 0, 99}, {99, 1, 99}, {99, 99, 99}, {99, -1, 98}, {99, -98, 1}, {99, -99, 0},
        };
        for (int[] one : beginMoreThen) {
            BellRoster t = withWard(0, 7, one[0], 7);
            Check.due(one[0] + " votes and " + one[1] + " more", t.vote(1, one[1]), one[2]);
            Check.due(one[0] + " votes and " + one[1] + " more, told", t.told(1, 2), one[2]);
            Check.due("the votes of the one ahead", t.told(0, 2), 7);
            Check.due("the votes of the next one", t.told(2, 2), 7);
        }
    }

    /** "held at 0 to 99": what goes beyond is not kept. */
    private static void votesHeldAreForgotten() {
        BellRoster t = withWard(0, 99);
        t.vote(0, 99);
        Check.due("one less than 99", t.vote(0, -1), 98);
        t.vote(0, -99);
        t.vote(0, -99);
        Check.due("one more than 0", t.vote(0, 1), 1);
    }

    /** "Returns the ward before." */
    private static void wardBefore() {
        BellRoster t = new BellRoster();
        int[] first = {0, 1, 2, 3, 0, 1};
        for (int band = 0; band < 3; band++) {
            for (int bell = 0; bell < 6; bell++) {
                Check.due("the first ward before", t.seat(band, bell, 3 - first[bell]), first[bell]);
                Check.due("the ward before once more", t.seat(band, bell, 3 - first[bell]), 3 - first[bell]);
                Check.due("the ward then", t.bell(band, bell, 0), 3 - first[bell]);
            }
        }
        t.seat(1, 5, 3);
        Check.due("the bell ahead", t.bell(1, 4, 0), 3);
        Check.due("the bell behind", t.bell(2, 0, 0), 3);
        Check.due("the same bell of the band ahead", t.bell(0, 5, 0), 2);
    }

    /** "the ward that elects its ringer from now on" */
    private static void wardFromNowOn() {
        BellRoster t = new BellRoster();
        t.ringer(0, 5, 50);
        t.ringer(3, 5, 50);
        t.elect(0);
        Check.due("elected by the ward 0", t.bell(0, 0, 1), 0);
        t.seat(0, 0, 3);
        Check.due("still there ahead of the next election", t.bell(0, 0, 1), 0);
        t.elect(0);
        Check.due("elected by the ward 3", t.bell(0, 0, 1), 1);
        Check.due("elected by the ward 0 for the bell 4", t.bell(0, 4, 1), 0);
    }

    /** "the one with the most votes .. rings it, if there is one": nobody at all, nobody of the ward. */
    private static void electNobody() {
        BellRoster t = new BellRoster();
        for (int band = 0; band < 3; band++) {
            Check.due("elected of nobody", t.elect(band), 0);
            dueRingers("elected of nobody", t, band, -1, -1, -1, -1, -1, -1);
        }
        t.ringer(2, 5, 50);
        t.seat(0, 2, 1);
        Check.due("nobody of the wards", t.elect(0), 0);
        Check.due("this one rings none", t.told(0, 4), -1);
    }

    /** "Returns how many of its bells have a ringer then.": 0 to 6. */
    private static void electSomeBells() {
        for (int count = 0; count <= 8; count++) {
            BellRoster t = new BellRoster();
            setWards(t, 1, 3);
            for (int i = 0; i < count; i++) {
                t.ringer(3, 5, 50);
            }
            Check.due("elected of " + count, t.elect(1), Math.min(6, count));
            Check.due("elected of " + count + " once more", t.elect(1), Math.min(6, count));
            for (int bell = 0; bell < 6; bell++) {
                Check.due("elected of " + count + " at " + bell, t.bell(1, bell, 1), bell < count ? bell : -1);
            }
        }
    }

    /** "whoever rings in it does not any more": also if no other bell is left for this one. */
    private static void electedOutOfAllBands() {
        BellRoster t = withWard(0, 50);
        setWards(t, 2, 1);
        t.put(2, 0, 0);
        Check.due("nobody is elected", t.elect(2), 0);
        Check.due("no band any more", t.told(0, 4), -1);
        Check.due("no bell any more", t.told(0, 5), -1);
    }

    /** "Puts a ringer, of whatever ward" and "whoever rings in it does not any more; then .. of those of its ward" */
    private static void electLeavesOneOfAnotherWard() {
        BellRoster t = new BellRoster();
        t.ringer(3, 5, 50);
        t.ringer(0, 5, 10);
        t.put(0, 0, 0);
        t.put(0, 3, 1);
        Check.due("both elected", t.elect(0), 2);
        dueRingers("each by the own ward", t, 0, 1, -1, -1, 0, -1, -1);
    }

    /** "of those of its ward who ring no bell" */
    private static void electWithoutOthersWhoRing() {
        BellRoster t = withWard(0, 90, 10, 80);
        t.put(1, 5, 0);
        t.put(0, 5, 2);
        Check.due("one of another band is not taken", t.elect(0), 2);
        dueRingers("who rang in the band itself is taken", t, 0, 2, -1, -1, -1, 1, -1);
        Check.due("the other one stays", t.bell(1, 5, 1), 0);
        t.leave(0);
        t.elect(0);
        dueRingers("who has left is taken", t, 0, 0, -1, -1, -1, 2, -1);
    }

    /** "the one with the most votes (of several the one with the smallest number)" */
    private static void electTheMostVotes() {
        int[][] votesElected = {
            {0, 0, 0, 0}, {0, 0, 1, 2}, {0, 1, 0, 1}, {1, 0, 0, 0}, {0, 1, 1, 1}, {1, 1, 0, 0},
            {99, 99, 99, 0}, {98, 99, 99, 1}, {98, 98, 99, 2}, {0, 99, 98, 1}, {7, 6, 7, 0},
        };
        for (int[] one : votesElected) {
            BellRoster t = withWard(2, one[0], one[1], one[2]);
            Check.due("one of the ward 2 is elected", t.elect(1), 1);
            Check.due(one[0] + ", " + one[1] + ", " + one[2] + " votes", t.bell(1, 2, 1), one[3]);
        }
    }

    /** "then for each bell, from 0 on" */
    private static void electFromBellZeroOn() {
        BellRoster t = withWard(1, 10, 30, 20, 60, 50, 40, 70);
        setWards(t, 0, 1);
        t.elect(0);
        dueRingers("the best one first", t, 0, 6, 3, 4, 5, 1, 2);
        Check.due("the least one is left", t.told(0, 4), -1);
    }

    /** "There are 3, 0 to 2; each has six bells": 18 of 20 ring, and the next elections find only who are left. */
    private static void electAllThree() {
        BellRoster t = new BellRoster();
        for (int i = 0; i < 20; i++) {
            t.ringer(i < 18 ? i % 6 % 4 : 0, 5, 99 - i);
        }
        for (int band = 0; band < 3; band++) {
            Check.due("the band " + band, t.elect(band), 6);
        }
        Check.due("18 ring", t.count(2), 18);
        dueRingers("the last band", t, 2, 12, 13, 14, 15, 16, 17);
        Check.due("the 20th rings none", t.told(19, 5), -1);
        t.vote(19, 99);
        Check.due("the last band once more", t.elect(2), 6);
        dueRingers("the last band with the 20th", t, 2, 19, 13, 14, 15, 12, 17);
        Check.due("one is out now", t.told(16, 5), -1);
        Check.due("still 18 ring", t.count(2), 18);
    }

    /** "Puts a ringer, of whatever ward, to a bell without one." "Returns the ward that elects for this bell." */
    private static void putWhateverWard() {
        for (int ward = 0; ward <= 3; ward++) {
            for (int elects = 0; elects <= 3; elects++) {
                BellRoster t = withWard(ward, 50);
                t.seat(0, 0, elects);
                Check.due("put one of " + ward + " where " + elects + " elects", t.put(0, 0, 0), elects);
                Check.due("this one rings", t.bell(0, 0, 1), 0);
                Check.due("the ward stays", t.told(0, 0), ward);
            }
        }
    }

    /** "Returns 10 * the band and the bell, added.": 0 to 25. */
    private static void putAndLeaveEachBell() {
        BellRoster t = withWard(2, 50);
        int[] wards = {0, 1, 2, 3, 0, 1};
        for (int band = 0; band < 3; band++) {
            for (int bell = 0; bell < 6; bell++) {
                Check.due("put to " + band + ", " + bell, t.put(band, bell, 0), wards[bell]);
                Check.due("the band", t.told(0, 4), band);
                Check.due("the bell", t.told(0, 5), bell);
                Check.due("one rings", t.count(2), 1);
                Check.due("leave " + band + ", " + bell, t.leave(0), 10 * band + bell);
                Check.due("no band", t.told(0, 4), -1);
                Check.due("no bell", t.told(0, 5), -1);
                Check.due("nobody there", t.bell(band, bell, 1), -1);
            }
        }
    }

    /** "if the bell has a ringer, or this one rings a bell": not any more behind leave(). */
    private static void putAgain() {
        BellRoster t = withWard(0, 50, 50);
        t.put(2, 5, 0);
        Check.dueThrow("the bell has a ringer", t, Check.STATE, () -> t.put(2, 5, 1));
        Check.dueThrow("this one rings a bell", t, Check.STATE, () -> t.put(2, 4, 0));
        t.leave(0);
        Check.due("the bell has none now", t.put(2, 5, 1), 1);
        Check.due("this one rings none now", t.put(2, 4, 0), 0);
    }

    /** "if this one rings none": never yet, not any more, and elected out. */
    private static void leaveOutOfElection() {
        BellRoster t = withWard(1, 50);
        Check.dueThrow("never rang", t, Check.STATE, () -> t.leave(0));
        t.put(0, 0, 0);
        t.leave(0);
        Check.dueThrow("has left", t, Check.STATE, () -> t.leave(0));
        t.elect(0);
        Check.due("elected", t.leave(0), 1);
        t.elect(0);
        setWards(t, 0, 0);
        t.elect(0);
        Check.dueThrow("elected out", t, Check.STATE, () -> t.leave(0));
    }

    /** "4 the band, -1 without a bell, 5 the bell, -1 without one" */
    private static void toldWithoutBell() {
        BellRoster t = withWard(0, 50);
        Check.due("the band without a bell", t.told(0, 4), -1);
        Check.due("the bell without one", t.told(0, 5), -1);
        t.put(0, 0, 0);
        Check.due("the band 0", t.told(0, 4), 0);
        Check.due("the bell 0", t.told(0, 5), 0);
    }

    /** "7 the rank: 1 and how many others of the ward have more votes" */
    private static void rankFromFirstToLast() {
        BellRoster t = withWard(3, 50);
        Check.due("the rank of one alone", t.told(0, 7), 1);
        t.ringer(3, 5, 50);
        Check.due("the same votes are not more", t.told(0, 7), 1);
        Check.due("nor for the other one", t.told(1, 7), 1);
        t.ringer(2, 5, 99);
        Check.due("another ward does not matter", t.told(0, 7), 1);
        t.vote(1, 1);
        Check.due("one more is more", t.told(0, 7), 2);
        Check.due("and the first one", t.told(1, 7), 1);
        t.vote(0, 2);
        Check.due("the ringer 0 has more than the ringer 1", t.told(1, 7), 2);
        BellRoster all = new BellRoster();
        for (int i = 0; i < 20; i++) {
            all.ringer(0, 5, i);
        }
        Check.due("the last one of 20", all.told(0, 7), 20);
        Check.due("the first one of 20", all.told(19, 7), 1);
    }

    /** "1 the ringer, -1 without one, 2 the ringer whom it would have .., -1 without one" */
    private static void bellWithoutRinger() {
        BellRoster t = withWard(2, 50);
        Check.due("no ringer", t.bell(2, 2, 1), -1);
        Check.due("the ringer 0, if elected", t.bell(2, 2, 2), 0);
        Check.due("none, if elected", t.bell(2, 3, 2), -1);
        t.put(2, 3, 0);
        Check.due("the ringer 0", t.bell(2, 3, 1), 0);
        Check.due("none of the ward, if elected", t.bell(2, 3, 2), -1);
        Check.due("the ringer 0 would be elected there", t.bell(2, 2, 2), 0);
    }

    /** "2 the ringer whom it would have, if the band was elected now": as elect() has it, for each band. */
    private static void bellIfElected() {
        for (int band = 0; band < 3; band++) {
            BellRoster asked = Towers.busy();
            BellRoster elected = Towers.busy();
            elected.elect(band);
            for (int bell = 0; bell < 6; bell++) {
                Check.due("if elected, " + band + ", " + bell, asked.bell(band, bell, 2), elected.bell(band, bell, 1));
            }
        }
    }
}
