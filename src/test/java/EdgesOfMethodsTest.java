import java.util.HashSet;
import java.util.Set;

/**
 * Promises 10 to 14: each sentence of the document that names a bound, above its test. What is refused stands in
 * RefusedCallsTest.
 */
final class EdgesOfMethodsTest {
    private static final int[] CHANGES = {0, 1, 2, 4, 5, 8, 9, 10, 16, 17, 18, 20, 21};
    private static final int ROUNDS = 1865;

    private EdgesOfMethodsTest() {
    }

    public static void main(String[] args) {
        methodsAreNumbered();
        changesAreCounted();
        methodsAreFullEachForItself();
        changesMovePairs();
        codesOfRows();
        rowsLeadByLead();
        emptyMethod();
        coursesOfOneToSixLeads();
        coursesEndAtTheFirstRounds();
        firstRowsOfCourses();
        rowsAgainAndAgain();
        longestCourses();
        addedDodges();
        noDodgeAtTheBeginning();
        dodgesOverLeads();
        noDodgeBehindStanding();
        mostDodges();
        courseBehindEachAdd();
        Check.finish();
    }

    private static BellRoster with(int... changes) {
        BellRoster t = new BellRoster();
        Towers.addMethod(t, changes);
        return t;
    }

    private static int code(String bells) {
        return Integer.parseInt(bells, 6);
    }

    private static int[] repeat(int change, int times) {
        int[] all = new int[times];
        java.util.Arrays.fill(all, change);
        return all;
    }

    /** leads, different rows, false rows, dodges of all bells, and bells at home behind the first lead */
    private static void dueCourse(int[] changes, int... due) {
        BellRoster t = with(changes);
        String name = java.util.Arrays.toString(changes);
        Check.due("changes of " + name, t.about(0, 0), changes.length);
        for (int what = 1; what <= 5; what++) {
            Check.due("about " + what + " of " + name, t.about(0, what), due[what - 1]);
        }
    }

    /** "There are at most 5, numbered from 0 in the order of their coming" */
    private static void methodsAreNumbered() {
        BellRoster t = new BellRoster();
        for (int i = 0; i < 5; i++) {
            Check.due("methods so far", t.count(3), i);
            Check.due("the number of the next method", t.method(), i);
        }
        Check.dueThrow("the 6th", t, Check.STATE, t::method);
        Check.due("methods behind the 6th", t.count(3), 5);
    }

    /** "each is a list of at most 12 changes (none, at first)" and "Returns how many it has then." */
    private static void changesAreCounted() {
        BellRoster t = new BellRoster();
        t.method();
        Check.due("none, at first", t.about(0, 0), 0);
        for (int i = 1; i <= 12; i++) {
            Check.due("one more", t.add(0, 1), i);
            Check.due("its changes then", t.about(0, 0), i);
        }
        Check.dueThrow("the 13th", t, Check.STATE, () -> t.add(0, 1));
        Check.dueThrow("the 13th, without pairs", t, Check.STATE, () -> t.add(0, 0));
        Check.due("its changes behind the 13th", t.about(0, 0), 12);
    }

    /** "Throws IllegalStateException if the method has 12": this one, not others. */
    private static void methodsAreFullEachForItself() {
        BellRoster t = new BellRoster();
        for (int i = 0; i < 5; i++) {
            t.method();
        }
        for (int method = 0; method < 5; method++) {
            for (int i = 1; i <= 12; i++) {
                Check.due("the changes of " + method, t.add(method, 0), i);
            }
        }
        for (int method = 0; method < 5; method++) {
            int full = method;
            Check.dueThrow("the 13th of " + method, t, Check.STATE, () -> t.add(full, 0));
        }
    }

    /** "with 1 the bells at the places 0 and 1 change their places, .. with 16 those at 4 and 5" */
    private static void changesMovePairs() {
        String[] rows = {
            "012345", "102345", "021345", "013245", "103245", "012435", "102435", "021435", "012354", "102354",
            "021354", "013254", "103254",
        };
        for (int i = 0; i < CHANGES.length; i++) {
            BellRoster t = with(CHANGES[i]);
            Check.due("the change " + CHANGES[i], t.row(0, 1), code(rows[i]));
            Check.due("the change " + CHANGES[i] + " once more", t.row(0, 2), ROUNDS);
        }
    }

    /** "Code of a row: .. the first one as the highest digit (rounds: 1865)": the least, rounds, to the greatest. */
    private static void codesOfRows() {
        BellRoster t = with(Towers.PLAIN_HUNT);
        Check.due("rounds", t.row(0, 0), 1865);
        Check.due("543210", t.row(0, 6), 44790);
        Check.due("rounds behind a course", t.row(0, 12), 1865);
    }

    /** "how many changes of a touch of it are rung, lead by lead, 0 to 200" */
    private static void rowsLeadByLead() {
        for (int length = 1; length <= 12; length++) {
            int[] changes = repeat(0, length);
            changes[length - 1] = 1;
            BellRoster t = with(changes);
            for (int rung : new int[] {0, 1, length - 1, length, 2 * length - 1, 2 * length, 199, 200}) {
                int due = rung / length % 2 == 0 ? ROUNDS : code("102345");
                Check.due("behind " + rung + " of leads of " + length, t.row(0, rung), due);
            }
        }
    }

    /** "(of an empty one: one lead, with rounds alone)" */
    private static void emptyMethod() {
        dueCourse(new int[] {}, 1, 1, 0, 0, 6);
        BellRoster t = with();
        for (int bell = 0; bell < 6; bell++) {
            Check.due("dodges of the bell " + bell + " in an empty one", t.dodges(0, bell), 0);
        }
        Check.dueThrow("a row of an empty one", t, Check.STATE, () -> t.row(0, 0));
    }

    /** "its touch of the fewest leads, 1 or more, that ends with rounds"; and "bells .. at their own place" 0 to 6 */
    private static void coursesOfOneToSixLeads() {
        dueCourse(new int[] {0}, 1, 1, 0, 0, 6);
        dueCourse(new int[] {1}, 2, 2, 0, 2, 4);
        dueCourse(new int[] {1, 2}, 3, 6, 0, 0, 3);
        dueCourse(new int[] {21}, 2, 2, 0, 6, 0);
        int[][] changesLeadsHome = {
            {1, 2, 4, 4, 2}, {1, 2, 4, 8, 5, 1}, {1, 2, 4, 8, 16, 6, 0}, {1, 2, 8, 6, 1}, {1, 2, 4, 16, 4, 0},
            {1, 2, 8, 16, 3, 0}, {1, 8, 2, 2}, {1, 4, 16, 2, 0},
        };
        for (int[] one : changesLeadsHome) {
            int[] changes = java.util.Arrays.copyOf(one, one.length - 2);
            BellRoster t = with(changes);
            String name = java.util.Arrays.toString(changes);
            Check.due("the leads of " + name, t.about(0, 1), one[one.length - 2]);
            Check.due("at home behind the first lead of " + name, t.about(0, 5), one[one.length - 1]);
        }
    }

    /** "of the fewest leads": rounds behind no lead but the last; and rounds in the midst of a lead do not end it. */
    private static void coursesEndAtTheFirstRounds() {
        int[][] all = {
            {0}, {1}, {1, 2}, {1, 2, 4}, {1, 2, 4, 8}, {1, 2, 4, 8, 16}, {1, 1, 1}, {1, 1, 2}, {2, 2, 4, 4, 8, 16},
            Towers.PLAIN_BOB, Towers.SWAY, Towers.PLAIN_HUNT,
        };
        for (int[] changes : all) {
            BellRoster t = with(changes);
            int leads = t.about(0, 1);
            Check.due("1 lead or more", leads >= 1 ? 1 : 0, 1);
            for (int lead = 1; lead < leads; lead++) {
                Check.due("rounds behind the lead " + lead, t.row(0, lead * changes.length) == ROUNDS ? 1 : 0, 0);
            }
            Check.due("rounds behind the last lead", t.row(0, leads * changes.length), ROUNDS);
        }
    }

    /** "rounds at its beginning, and the row behind each change": the beginning is a row too. */
    private static void firstRowsOfCourses() {
        dueCourse(new int[] {1, 1}, 1, 2, 0, 2, 6);
        dueCourse(new int[] {1, 0, 1}, 1, 2, 1, 0, 6);
        dueCourse(new int[] {0, 1, 1}, 1, 2, 1, 2, 6);
        dueCourse(new int[] {1, 1, 0}, 1, 2, 1, 2, 6);
    }

    /** "One of them is false, if it came ahead in the touch; but rounds behind the last change of the touch is not." */
    private static void rowsAgainAndAgain() {
        dueCourse(new int[] {0, 0}, 1, 1, 1, 0, 6);
        dueCourse(new int[] {0, 0, 0}, 1, 1, 2, 0, 6);
        dueCourse(repeat(0, 12), 1, 1, 11, 0, 6);
        dueCourse(new int[] {1, 1, 1, 1}, 1, 2, 2, 6, 6);
        dueCourse(new int[] {1, 1, 1}, 2, 2, 4, 10, 4);
        dueCourse(new int[] {1, 1, 2, 2}, 1, 3, 1, 4, 6);
        dueCourse(new int[] {1, 1, 2}, 2, 4, 2, 4, 4);
    }

    /** All rows of a course, by row(): at most 12 changes and 6 leads. */
    private static void longestCourses() {
        int[][] all = {
            {1, 2, 4, 8, 16, 0, 0, 0, 0, 0, 0, 0}, {21, 10, 21, 10, 21, 10, 21, 10, 21, 10, 21, 20},
            {1, 2, 4, 8, 16, 1, 2, 4, 8, 16, 1, 2}, {21, 10, 21, 10, 21, 18, 9, 10, 20, 5, 17, 1},
            {5, 10, 20, 10, 5, 10, 20, 10, 5, 10, 20, 9}, {17, 10, 4, 9, 20, 2, 16, 8, 5, 18, 21, 10},
            {16, 8, 4, 2, 1, 16, 8, 4, 2, 1, 16, 0}, {1, 2, 8, 0, 0, 0, 0, 0, 0, 0, 0, 0},
        };
        int longest = 0;
        for (int[] changes : all) {
            BellRoster t = with(changes);
            int leads = t.about(0, 1);
            longest = Math.max(longest, leads);
            Set<Integer> rows = new HashSet<>();
            for (int rung = 0; rung <= 12 * leads; rung++) {
                rows.add(t.row(0, rung));
            }
            String name = java.util.Arrays.toString(changes);
            Check.due("different rows of " + name, t.about(0, 2), rows.size());
            Check.due("false rows of " + name, t.about(0, 3), 12 * leads - rows.size());
        }
        Check.due("the most leads", longest, 6);
    }

    /** "4 dodges of all bells in it, added" */
    private static void addedDodges() {
        for (int[] changes : new int[][] {{}, {0}, {21}, Towers.SWAY, Towers.PLAIN_BOB, {1, 1, 2, 2, 4, 4, 8, 8, 16, 16}}) {
            BellRoster t = with(changes);
            int sum = 0;
            for (int bell = 0; bell < 6; bell++) {
                sum += t.dodges(0, bell);
            }
            Check.due("dodges of " + java.util.Arrays.toString(changes) + ", added", t.about(0, 4), sum);
        }
    }

    private static void dueDodges(int[] changes, int... due) {
        BellRoster t = with(changes);
        for (int bell = 0; bell < 6; bell++) {
            String name = "dodges of the bell " + bell + " in " + java.util.Arrays.toString(changes);
            Check.due(name, t.dodges(0, bell), due[bell]);
        }
    }

    /** "by the change ahead of it in the touch": the first change has none ahead, not even the last one of the course. */
    private static void noDodgeAtTheBeginning() {
        dueDodges(new int[] {0}, 0, 0, 0, 0, 0, 0);
        dueDodges(new int[] {1, 1}, 1, 1, 0, 0, 0, 0);
        dueDodges(new int[] {16, 16}, 0, 0, 0, 0, 1, 1);
        dueDodges(new int[] {1, 0, 1}, 0, 0, 0, 0, 0, 0);
        dueDodges(new int[] {1, 1, 16, 16}, 1, 1, 0, 0, 1, 1);
    }

    /** "(maybe that of the lead ahead)" */
    private static void dodgesOverLeads() {
        dueDodges(new int[] {1}, 1, 1, 0, 0, 0, 0);
        dueDodges(new int[] {16}, 0, 0, 0, 0, 1, 1);
        dueDodges(new int[] {1, 0}, 0, 0, 0, 0, 0, 0);
        dueDodges(new int[] {1, 4, 1, 1, 4}, 2, 2, 0, 0, 0, 0);
    }

    /** "if it moves by this, and by the change ahead of it in the touch .. moved the other way" */
    private static void noDodgeBehindStanding() {
        dueDodges(new int[] {4, 0, 4}, 0, 0, 0, 0, 0, 0);
        dueDodges(new int[] {1, 16, 1, 16}, 0, 0, 0, 0, 0, 0);
        dueDodges(new int[] {1, 2}, 0, 0, 0, 0, 0, 0);
        dueDodges(new int[] {1, 2, 2, 1}, 1, 0, 1, 0, 0, 0);
    }

    /** The bells that dodge at each change but the first of the longest courses that go to and fro. */
    private static void mostDodges() {
        dueDodges(repeat(21, 12), 11, 11, 11, 11, 11, 11);
        dueDodges(repeat(21, 11), 21, 21, 21, 21, 21, 21);
        Check.due("dodges of all bells", with(repeat(21, 11)).about(0, 4), 126);
    }

    /** "Adds a change to the end of a method.": the course is another one behind each. */
    private static void courseBehindEachAdd() {
        int[][] leadsRowsFalseDodgesHome = {
            {1, 1, 0, 0, 6}, {2, 2, 0, 2, 4}, {1, 2, 0, 2, 6}, {2, 4, 2, 4, 4}, {1, 3, 1, 4, 6},
        };
        BellRoster t = new BellRoster();
        t.method();
        int[] changes = {1, 1, 2, 2};
        for (int added = 0; added <= 4; added++) {
            if (added > 0) {
                Check.due("how many then", t.add(0, changes[added - 1]), added);
            }
            for (int what = 1; what <= 5; what++) {
                int due = leadsRowsFalseDodgesHome[added][what - 1];
                Check.due("about " + what + " behind " + added, t.about(0, what), due);
            }
        }
    }
}
