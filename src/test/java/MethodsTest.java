import java.util.ArrayList;
import java.util.HashSet;
import java.util.List;
import java.util.Set;

/** Promises 10 to 14. */
final class MethodsTest {
    private MethodsTest() {
    }

    public static void main(String[] args) {
        method();
        add();
        about();
        aboutFalseCourses();
        aboutAnyTwoRows();
        row();
        dodges();
        Check.finish();
    }

    private static void method() {
        BellRoster t = new BellRoster();
        for (int i = 0; i < 5; i++) {
            Check.due("promise 10: the number", t.method(), i);
            Check.due("promise 10: it is empty", t.about(i, 0), 0);
            Check.due("promise 10: how many there are", t.count(3), i + 1);
        }
        Check.dueThrow("the 6th method", t, Check.STATE, t::method);
    }

    private static void add() {
        BellRoster t = new BellRoster();
        Check.dueThrow("add(0, 0) without methods", t, Check.INDEX, () -> t.add(0, 0));
        t.method();
        Check.dueThrow("add(-1, 0)", t, Check.INDEX, () -> t.add(-1, 0));
        Check.dueThrow("add(1, 32)", t, Check.INDEX, () -> t.add(1, 32));
        int legal = 0;
        for (int change = -2; change < 40; change++) {
            int tried = change;
            if (isChange(change)) {
                legal++;
                if (legal <= 12) {
                    Check.due("promise 11: add(0, " + change + ")", t.add(0, change), legal);
                } else {
                    Check.dueThrow("the 13th change", t, Check.STATE, () -> t.add(0, tried));
                }
            } else {
                Check.dueThrow("add(0, " + change + ")", t, Check.ARGUMENT, () -> t.add(0, tried));
            }
        }
        Check.due("promise 11: how many changes there are in all", legal, 13);
        Check.dueThrow("the 13th change is none", t, Check.ARGUMENT, () -> t.add(0, 3));
        t.method();
        Check.due("promise 11: another method is still empty", t.add(1, 16), 1);
    }

    private static boolean isChange(int change) {
        int[] all = {0, 1, 2, 4, 8, 16, 5, 9, 17, 10, 18, 20, 21};
        for (int one : all) {
            if (one == change) {
                return true;
            }
        }
        return false;
    }

    private static void dueAbout(BellRoster t, int method, int... all) {
        for (int what = 0; what < all.length; what++) {
            Check.due("promise 12: about(" + method + ", " + what + ")", t.about(method, what), all[what]);
        }
    }

    private static void about() {
        BellRoster t = new BellRoster();
        t.method();
        dueAbout(t, 0, 0, 1, 1, 0, 0, 6);
        Towers.addMethod(t, Towers.PLAIN_HUNT);
        dueAbout(t, 1, 2, 6, 12, 0, 0, 0);
        Towers.addMethod(t, Towers.PLAIN_BOB);
        dueAbout(t, 2, 12, 5, 60, 0, 36, 1);
        t.add(1, 21);
        dueAbout(t, 1, 3, 2, 4, 2, 6, 2);
        Check.dueThrow("about(3, 0)", t, Check.INDEX, () -> t.about(3, 0));
        Check.dueThrow("about(-1, 0)", t, Check.INDEX, () -> t.about(-1, 0));
        Check.dueThrow("about(0, -1)", t, Check.INDEX, () -> t.about(0, -1));
        Check.dueThrow("about(0, 6)", t, Check.INDEX, () -> t.about(0, 6));
    }

    private static void aboutFalseCourses() {
        BellRoster t = new BellRoster();
        Towers.addMethod(t, 0);
        dueAbout(t, 0, 1, 1, 1, 0, 0, 6);
        Towers.addMethod(t, 0, 0);
        dueAbout(t, 1, 2, 1, 1, 1, 0, 6);
        Towers.addMethod(t, 1, 1);
        dueAbout(t, 2, 2, 1, 2, 0, 2, 6);
        Towers.addMethod(t, 1, 1, 1);
        dueAbout(t, 3, 3, 2, 2, 4, 10, 4);
        Towers.addMethod(t, Towers.SWAY);
        dueAbout(t, 4, 4, 2, 2, 6, 12, 2);
    }

    /** Six changes lead to any row, and six more to any other: so each pair of rows is once told apart. */
    private static void aboutAnyTwoRows() {
        List<String> rows = new ArrayList<>();
        addRows("", rows);
        for (String first : rows) {
            for (String second : rows) {
                if (first.compareTo(second) < 0) {
                    aboutTwoRows(first, second);
                }
            }
        }
    }

    private static void addRows(String begun, List<String> rows) {
        if (begun.length() == 6) {
            rows.add(begun);
        }
        for (char bell = '0'; bell < '6'; bell++) {
            if (begun.indexOf(bell) < 0) {
                addRows(begun + bell, rows);
            }
        }
    }

    private static void aboutTwoRows(String first, String second) {
        BellRoster t = new BellRoster();
        int method = t.method();
        StringBuilder row = new StringBuilder("012345");
        List<String> lead = new ArrayList<>();
        lead.add(row.toString());
        goTo(first, row, lead, t);
        goTo(second, row, lead, t);
        if (t.about(method, 1) == 1) {
            int different = new HashSet<>(lead).size();
            Check.due("promise 12: different rows by " + first + " and " + second, t.about(method, 2), different);
            return;
        }
        Set<Integer> course = new HashSet<>();
        int changes = t.about(method, 0) * t.about(method, 1);
        for (int i = 0; i < changes; i++) {
            course.add(t.row(method, i));
        }
        Check.due("promise 12: different rows by " + first + " and " + second, t.about(method, 2), course.size());
        Check.due("promise 12: false rows by " + first + " and " + second, t.about(method, 3), changes - course.size());
    }

    /** Sorts by the pairs from place 0 and those from place 1 in turn, which six changes always bring to an end. */
    private static void goTo(String aim, StringBuilder row, List<String> lead, BellRoster t) {
        for (int i = 0; i < 6; i++) {
            int change = 0;
            for (int place = i % 2; place < 5; place += 2) {
                char left = row.charAt(place);
                char right = row.charAt(place + 1);
                if (aim.indexOf(left) > aim.indexOf(right)) {
                    row.setCharAt(place, right);
                    row.setCharAt(place + 1, left);
                    change += 1 << place;
                }
            }
            t.add(0, change);
            lead.add(row.toString());
        }
        Check.due("the row gone to", row.toString(), aim);
    }

    private static void row() {
        BellRoster t = new BellRoster();
        t.method();
        Check.dueThrow("row of an empty method", t, Check.STATE, () -> t.row(0, 0));
        Check.dueThrow("row(0, -1) of an empty method", t, Check.ARGUMENT, () -> t.row(0, -1));
        Check.dueThrow("row(0, 201)", t, Check.ARGUMENT, () -> t.row(0, 201));
        Check.dueThrow("row(1, 201)", t, Check.INDEX, () -> t.row(1, 201));
        Check.dueThrow("row(-1, 0)", t, Check.INDEX, () -> t.row(-1, 0));
        t.add(0, 1);
        t.add(0, 2);
        Check.dueUnchanged("promise 13: rounds", t, 1865, () -> t.row(0, 0));
        Check.due("promise 13: 102345", t.row(0, 1), code("102345"));
        Check.due("promise 13: 120345", t.row(0, 2), code("120345"));
        Check.due("promise 13: the lead once more, 210345", t.row(0, 3), code("210345"));
        Check.due("promise 13: 201345", t.row(0, 4), code("201345"));
        Check.due("promise 13: rounds again", t.row(0, 6), 1865);
        Check.due("promise 13: the most, 200", t.row(0, 200), code("120345"));
        Towers.addMethod(t, Towers.PLAIN_HUNT);
        Check.due("promise 13: 103254", t.row(1, 1), code("103254"));
        Check.due("promise 13: back, 543210", t.row(1, 6), code("543210"));
    }

    private static int code(String bells) {
        return Integer.parseInt(bells, 6);
    }

    private static void dueDodges(BellRoster t, int method, int... all) {
        for (int bell = 0; bell < 6; bell++) {
            Check.due("promise 14: dodges(" + method + ", " + bell + ")", t.dodges(method, bell), all[bell]);
        }
    }

    private static void dodges() {
        BellRoster t = new BellRoster();
        t.method();
        dueDodges(t, 0, 0, 0, 0, 0, 0, 0);
        Towers.addMethod(t, Towers.SWAY);
        dueDodges(t, 1, 3, 3, 0, 0, 3, 3);
        Towers.addMethod(t, Towers.PLAIN_BOB);
        dueDodges(t, 2, 0, 8, 7, 7, 7, 7);
        Towers.addMethod(t, 1, 0, 1);
        dueDodges(t, 3, 0, 0, 0, 0, 0, 0);
        Towers.addMethod(t, 1, 2);
        dueDodges(t, 4, 0, 0, 0, 0, 0, 0);
        Check.dueThrow("dodges(5, 0)", t, Check.INDEX, () -> t.dodges(5, 0));
        Check.dueThrow("dodges(-1, 0)", t, Check.INDEX, () -> t.dodges(-1, 0));
        Check.dueThrow("dodges(0, -1)", t, Check.INDEX, () -> t.dodges(0, -1));
        Check.dueThrow("dodges(0, 6)", t, Check.INDEX, () -> t.dodges(0, 6));
    }
}
