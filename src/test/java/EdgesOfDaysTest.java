import java.util.Arrays;

/**
 * Promises 19 to 22: each sentence of the document that names a bound, above its test. What is refused stands in
 * RefusedCallsTest.
 */
final class EdgesOfDaysTest {
    private EdgesOfDaysTest() {
    }

    public static void main(String[] args) {
        restAtLeastZero();
        restAheadOfElection();
        electedOnTheSixthBySeven();
        electedAlongWhateverPasses();
        electedByTheVotesOfThatDay();
        electedOneBehindTheOther();
        dayIsGreater();
        passOneAndSixty();
        passAnotherBandOrBell();
        passOnlyTheEnds();
        passMovesAll();
        foreseeAsPassDoes();
        foreseeFromEachDay();
        foreseeWithoutBell();
        meanOfNobody();
        meanLeastAndGreatest();
        meanIsNotCut();
        digestOfNothing();
        digestOfAll();
        digestWrapsAround();
        fiveHundredAndTwelveCalls();
        Check.finish();
    }

    /** "Each ringer who rings a bell is less tired by 3, each other one by 5 (at least 0)." */
    private static void restAtLeastZero() {
        for (int tired = 0; tired <= 20; tired++) {
            BellRoster t = Towers.tiredBy(9, tired);
            t.leave(1);
            Check.due("tired ahead", t.told(0, 3), tired);
            Check.due("tired ahead, without a bell", t.told(1, 3), tired);
            for (int day = 1; day <= 5; day++) {
                t.pass(1);
                String what = tired + " behind " + day + " days";
                Check.due(what, t.told(0, 3), Math.max(0, tired - 3 * day));
                Check.due(what + " without a bell", t.told(1, 3), Math.max(0, tired - 5 * day));
            }
        }
    }

    /** "1. Each ringer who rings a bell is less tired by 3, .. 2. .. all bands are elected": in this order. */
    private static void restAheadOfElection() {
        BellRoster t = Towers.withBand(9, 50);
        t.pass(6);
        Towers.addMethod(t, 1);
        t.ring(0, 0, 11);
        Check.due("tired by 10", t.told(0, 3), 10);
        t.leave(1);
        for (int band = 0; band < 3; band++) {
            t.seat(band, 0, 2);
            t.seat(band, 4, 2);
        }
        t.pass(1);
        Check.due("elected out on this day", t.told(0, 4), -1);
        Check.due("rang ahead of it", t.told(0, 3), 7);
        Check.due("elected on this day", t.told(1, 4), 0);
        Check.due("rang no bell ahead of it", t.told(1, 3), 5);
        t.pass(1);
        Check.due("rings no bell on the next day", t.told(0, 3), 2);
        Check.due("rings on the next day", t.told(1, 3), 2);
    }

    /** "On a day with the remainder 6 by 7 all bands are elected": 6, 13, 20, .. and none else of 60. */
    private static void electedOnTheSixthBySeven() {
        BellRoster t = new BellRoster();
        t.ringer(0, 5, 50);
        for (int day = 0; day < 60; day++) {
            Check.due("the day", t.count(0), day);
            Check.due("elected on the day " + day, t.pass(1), day % 7 == 6 ? 1 : 0);
            Check.due("rings behind the day " + day, t.told(0, 4), day % 7 == 6 ? 0 : -1);
            if (day % 7 == 6) {
                t.leave(0);
            }
        }
    }

    /** "On a day with the remainder 6 by 7": also in the midst of many days. */
    private static void electedAlongWhateverPasses() {
        for (int begin = 0; begin <= 14; begin++) {
            for (int days = 1; days <= 15; days++) {
                BellRoster t = new BellRoster();
                if (begin > 0) {
                    t.pass(begin);
                }
                t.ringer(0, 5, 50);
                boolean met = false;
                for (int day = begin; day < begin + days; day++) {
                    met |= day % 7 == 6;
                }
                Check.due("foreseen from " + begin + ", " + days, t.foresee(0, days, 4), met ? 0 : -1);
                Check.due("passed from " + begin + ", " + days, t.pass(days), met ? 1 : 0);
                Check.due("rings then", t.told(0, 4), met ? 0 : -1);
            }
        }
    }

    /** "of those of its ward who ring no bell the one with the most votes": as they are on that day. */
    private static void electedByTheVotesOfThatDay() {
        BellRoster t = new BellRoster();
        for (int i = 0; i < 7; i++) {
            t.ringer(0, 5, 50);
        }
        t.pass(6);
        t.vote(6, 1);
        t.pass(1);
        Check.due("the one with one vote more", t.bell(0, 0, 1), 6);
        Check.due("the smallest number of the others", t.bell(0, 4, 1), 0);
        Check.due("the last one elected", t.bell(2, 4, 1), 4);
        t.vote(5, 2);
        Check.due("nothing by the votes alone", t.told(5, 4), -1);
        Check.due("nothing in six days", t.pass(6), 0);
        // The ringer 5 comes, so 6 goes from the first bell to the second, and 0 out of it, into the next band.
        t.pass(1);
        Check.due("the one with two more", t.bell(0, 0, 1), 5);
        Check.due("the one with one more", t.bell(0, 4, 1), 6);
        Check.due("the next band finds who is free", t.bell(1, 0, 1), 0);
    }

    /** "all bands are elected, from 0 on, one behind the other" */
    private static void electedOneBehindTheOther() {
        BellRoster t = new BellRoster();
        t.ringer(0, 5, 90);
        t.ringer(0, 5, 10);
        t.ringer(1, 5, 90);
        t.put(2, 5, 0);
        t.put(1, 0, 2);
        t.pass(7);
        Check.due("the band 0 finds only the free one", t.bell(0, 0, 1), 1);
        Check.due("its bell 1 finds nobody", t.bell(0, 1, 1), -1);
        Check.due("the band 1 elects its own", t.bell(1, 1, 1), 2);
        Check.due("and none of the band 2", t.bell(1, 0, 1), -1);
        Check.due("the band 2 elects its own", t.bell(2, 0, 1), 0);
        BellRoster all = new BellRoster();
        for (int i = 0; i < 18; i++) {
            all.ringer(i % 6 % 4, 5, 99 - i);
        }
        Check.due("18 come to bells", all.pass(7), 18);
        for (int i = 0; i < 18; i++) {
            Check.due("the bell of " + i, 10 * all.told(i, 4) + all.told(i, 5), i / 6 * 10 + i % 6);
        }
    }

    /** "3. The day is 1 greater." */
    private static void dayIsGreater() {
        BellRoster t = new BellRoster();
        for (int day = 1; day <= 100; day++) {
            t.pass(1);
            Check.due("the day", t.count(0), day);
        }
    }

    /** "Throws IllegalArgumentException if days is not 1 to 60": 1 and 60 are allowed. */
    private static void passOneAndSixty() {
        BellRoster t = Towers.tiredBy(9, 20);
        Check.due("one day", t.pass(1), 0);
        Check.due("the day 1", t.count(0), 1);
        Check.due("less tired by 3", t.told(0, 3), 17);
        t.pass(60);
        Check.due("the day 61", t.count(0), 61);
        Check.due("not tired", t.told(0, 3), 0);
        Check.dueThrow("no day", t, Check.ARGUMENT, () -> t.pass(0));
        Check.dueThrow("61 days", t, Check.ARGUMENT, () -> t.pass(61));
    }

    /** "of how many ringers the band or the bell is another one then (also of those who have none ahead or then)" */
    private static void passAnotherBandOrBell() {
        Check.due("the same bell", moved(0, 0, 0), 0);
        Check.due("another bell of the band", moved(0, 1, 0), 1);
        Check.due("another bell, from behind", moved(0, 5, 0), 1);
        Check.due("none ahead", moved(-1, 0, 0), 1);
        Check.due("none ahead and then", moved(-1, 0, -1), 0);
        Check.due("none then", moved(0, 0, -1), 1);
        Check.due("the same bell of another band", moved(0, 0, 1), 1);
        Check.due("another band and another bell", moved(0, 1, 1), 1);
        Check.due("the same bell of the last band", moved(2, 0, 2), 0);
    }

    /** One ringer of the ward 0 goes from a bell, or none, to the bell 0 of the band that is left to the ward, or none. */
    private static int moved(int band, int bell, int bandThen) {
        BellRoster t = new BellRoster();
        t.ringer(0, 5, 50);
        if (band >= 0) {
            t.put(band, bell, 0);
        }
        for (int one = 0; one < 3; one++) {
            for (int two = 0; two < 6; two++) {
                t.seat(one, two, one == bandThen && two == 0 ? 0 : 1);
            }
        }
        int moved = t.pass(7);
        Check.due("the band then", t.told(0, 4), bandThen);
        Check.due("the bell then", t.told(0, 5), bandThen < 0 ? -1 : 0);
        return moved;
    }

    /** "another one then": behind all days, so one who moves by more than one election counts once. */
    private static void passOnlyTheEnds() {
        BellRoster t = new BellRoster();
        t.ringer(0, 5, 50);
        Check.due("elected eight times in 60 days", t.pass(60), 1);
        Check.due("and where it was in 60 more", t.pass(60), 0);
        BellRoster two = new BellRoster();
        two.ringer(0, 5, 90);
        two.ringer(0, 5, 10);
        two.seat(0, 4, 1);
        two.put(1, 4, 0);
        two.put(0, 0, 1);
        Check.due("the band 1 elects to its bell 0", two.pass(7), 1);
        Check.due("the lesser one stays in the band 0", two.told(1, 4), 0);
        Check.due("nobody moves by the next elections", two.pass(60), 0);
    }

    /** "of how many ringers": none to all 20. */
    private static void passMovesAll() {
        Check.due("without ringers", new BellRoster().pass(60), 0);
        BellRoster t = new BellRoster();
        for (int i = 0; i < 20; i++) {
            t.ringer(i % 6 % 4, 5, 50);
        }
        for (int i = 0; i < 18; i++) {
            t.put(i / 6, i % 6, i < 2 ? i + 18 : i);
        }
        t.pass(6);
        for (int band = 0; band < 3; band++) {
            for (int bell = 0; bell < 6; bell++) {
                t.seat(band, bell, 3);
            }
        }
        Check.due("all but the three of the ward 3 are out, and these move", t.pass(1), 18);
        Check.due("three ring", t.count(2), 3);
        Check.due("each elected by the own band", t.bell(2, 0, 1), 15);
    }

    /** "Returns this, behind so many days, if nothing is done": 1 to 60 days, for each ringer and each of 3 to 5. */
    private static void foreseeAsPassDoes() {
        for (int days = 1; days <= 60; days++) {
            BellRoster asked = Towers.full();
            BellRoster passed = Towers.full();
            asked.vote(19, 99);
            passed.vote(19, 99);
            passed.pass(days);
            for (int ringer = 0; ringer < 20; ringer++) {
                for (int what = 3; what <= 5; what++) {
                    String name = "foresee(" + ringer + ", " + days + ", " + what + ")";
                    Check.due(name, asked.foresee(ringer, days, what), passed.told(ringer, what));
                }
            }
            Check.due("the day stays", asked.count(0), 5);
        }
    }

    /** "On a day with the remainder 6 by 7": foreseen from each day on. */
    private static void foreseeFromEachDay() {
        BellRoster t = new BellRoster();
        t.ringer(1, 5, 50);
        for (int day = 0; day < 21; day++) {
            int next = 7 - day % 7;
            Check.due("a day ahead of the election", next > 1 ? t.foresee(0, next - 1, 5) : -1, -1);
            Check.due("with the election", t.foresee(0, next, 5), 1);
            Check.due("a day behind the election", t.foresee(0, next + 1, 5), 1);
            t.pass(1);
            if (day % 7 == 6) {
                t.leave(0);
            }
        }
    }

    /** "4 the band, -1 without a bell, 5 the bell, -1 without one", foreseen; and "tired", at least 0. */
    private static void foreseeWithoutBell() {
        BellRoster t = new BellRoster();
        for (int i = 0; i < 7; i++) {
            t.ringer(0, 5, 50);
        }
        Check.due("no band ahead of the election", t.foresee(0, 6, 4), -1);
        Check.due("no bell ahead of the election", t.foresee(0, 6, 5), -1);
        Check.due("the first band", t.foresee(0, 7, 4), 0);
        Check.due("the last band", t.foresee(5, 7, 4), 2);
        Check.due("the last bell of the ward", t.foresee(5, 7, 5), 4);
        Check.due("no band is left", t.foresee(6, 60, 4), -1);
        Check.due("no bell is left", t.foresee(6, 60, 5), -1);
        BellRoster tired = Towers.tiredBy(9, 20);
        tired.leave(1);
        Check.due("tired by 20, with a bell, 6 days", tired.foresee(0, 6, 3), 2);
        Check.due("tired by 20, with a bell, 7 days", tired.foresee(0, 7, 3), 0);
        Check.due("tired by 20, without one, 3 days", tired.foresee(1, 3, 3), 5);
        Check.due("tired by 20, without one, 4 days", tired.foresee(1, 4, 3), 0);
        Check.due("tired by 20, 60 days", tired.foresee(0, 60, 3), 0);
        Check.due("not tired, 1 day", tired.foresee(2, 1, 3), 0);
    }

    /** "0 if nobody does": no ringers, none who rings, none who rings any more. */
    private static void meanOfNobody() {
        BellRoster t = new BellRoster();
        Check.dueDouble("no ringers", t.mean(), 0.0);
        t.ringer(3, 9, 0);
        Check.dueDouble("none who rings", t.mean(), 0.0);
        t.elect(0);
        Check.dueDouble("one who rings", t.mean(), 9.0);
        t.leave(0);
        Check.dueDouble("none who rings any more", t.mean(), 0.0);
    }

    /** Skill 0 to 9, of one and of 18. */
    private static void meanLeastAndGreatest() {
        for (int skill = 0; skill <= 9; skill++) {
            BellRoster t = new BellRoster();
            for (int i = 0; i < 18; i++) {
                t.ringer(0, skill, 0);
            }
            for (int i = 0; i < 18; i++) {
                t.put(i / 6, i % 6, i);
                Check.dueDouble("the skill " + skill + " of " + (i + 1), t.mean(), skill);
            }
            t.ringer(0, 9 - skill, 0);
            Check.dueDouble("and one without a bell", t.mean(), skill);
        }
    }

    /** "the mean skill of all who ring a bell": of all bands, and with what is behind the point. */
    private static void meanIsNotCut() {
        BellRoster t = new BellRoster();
        int sum = 0;
        int[] skills = {0, 1, 9, 0, 0, 7, 3, 0, 5, 8, 2, 9, 9, 4, 6, 0, 1, 1};
        for (int i = 0; i < 18; i++) {
            t.ringer(i % 4, skills[i], 50);
            t.put(2 - i / 6, i % 6, i);
            sum += skills[i];
            Check.dueDouble("the mean of " + (i + 1), t.mean(), (double) sum / (i + 1));
        }
    }

    /** "what count() tells ..; for each ringer ..; for each band, for each bell ..; for each method ..": see digestOf. */
    private static void dueDigest(String what, BellRoster t, int[]... methods) {
        long due = Towers.digestOf(t, methods);
        Check.due(what, t.digest(), due);
        Check.due(what + " once more", t.digest(), due);
    }

    /** "A number d starts with 1237": a new object, and one with a thing of each kind. */
    private static void digestOfNothing() {
        long d = 1237;
        for (int i = 0; i < 9; i++) {
            d = d * 31;
        }
        for (int seat = 0; seat < 18; seat++) {
            d = ((d * 31 + seat % 6 % 4) * 31 - 1) * 31 - 1;
        }
        Check.due("a new object", new BellRoster().digest(), d);
        BellRoster t = new BellRoster();
        dueDigest("nothing", t);
        t.method();
        dueDigest("an empty method", t, new int[] {});
        t.ringer(1, 2, 3);
        dueDigest("a ringer and an empty method", t, new int[] {});
        t.add(0, 17);
        dueDigest("a ringer and a change", t, new int[] {17});
    }

    /** All places taken: 20 ringers, 5 methods, 12 changes, 18 bells. */
    private static void digestOfAll() {
        int[][] methods = {Towers.PLAIN_BOB, {1}, Towers.SWAY, Towers.PLAIN_HUNT, {}};
        dueDigest("a full tower", Towers.full(), methods);
        BellRoster t = Towers.full();
        t.pass(60);
        t.seat(2, 5, 3);
        t.leave(t.bell(1, 2, 1));
        dueDigest("a full tower later", t, methods);
        int[][] longest = new int[5][12];
        BellRoster all = new BellRoster();
        for (int i = 0; i < 20; i++) {
            all.ringer(i % 4, 9, 99);
        }
        for (int[] changes : longest) {
            Arrays.fill(changes, 21);
            Towers.addMethod(all, changes);
        }
        dueDigest("methods of 12 changes each", all, longest);
    }

    /** "d becomes d * 31 + x, which wraps around as a 64-bit integer": by numbers that do not wrap, cut at the end. */
    private static void digestWrapsAround() {
        java.math.BigInteger d = java.math.BigInteger.valueOf(1237);
        BellRoster t = new BellRoster();
        for (int what = 0; what < 9; what++) {
            d = next(d, t.count(what));
        }
        for (int seat = 0; seat < 18; seat++) {
            for (int what = 0; what < 3; what++) {
                d = next(d, t.bell(seat / 6, seat % 6, what));
            }
        }
        Check.due("more than 64 bits", d.bitLength() > 64 ? 1 : 0, 1);
        Check.due("the lowest 64 bits", t.digest(), d.longValue());
    }

    private static java.math.BigInteger next(java.math.BigInteger d, int x) {
        return d.multiply(java.math.BigInteger.valueOf(31)).add(java.math.BigInteger.valueOf(x));
    }

    /** "An object is used for at most 512 calls after it has been made": the last one of them is as due. */
    private static void fiveHundredAndTwelveCalls() {
        BellRoster t = new BellRoster();
        for (int call = 1; call <= 511; call++) {
            t.pass(60);
        }
        Check.due("the day by the call 512", t.count(0), 60 * 511);
        BellRoster band = Towers.withBand(9, 99);
        for (int i = 0; i < 12; i++) {
            if (i == 0) {
                band.method();
            }
            band.add(0, 0);
        }
        for (int call = 26; call <= 511; call++) {
            band.ring(0, 0, 12);
        }
        Check.due("false rows by the call 512", band.count(6), 486 * 143);
    }
}
