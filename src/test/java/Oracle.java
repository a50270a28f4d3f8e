import java.util.ArrayList;
import java.util.Arrays;
import java.util.HashSet;
import java.util.List;
import java.util.Set;

/** The document a second time, word by word and without care for its cost: OracleTest sets BellRoster against it. */
final class Oracle {
    static final class Person {
        int number;
        int ward;
        int skill;
        int votes;
        int tired;
        int faults;
    }

    /** What ringing a touch comes to, without a band. */
    static final class Story {
        final List<String> rows = new ArrayList<>();
        // dodgers.get(i): the bells that dodge by the change i
        final List<List<Integer>> dodgers = new ArrayList<>();

        int falseRows() {
            Set<String> ahead = new HashSet<>();
            int falseRows = 0;
            for (int i = 0; i < rows.size(); i++) {
                boolean lastRounds = i > 0 && i == rows.size() - 1 && rows.get(i).equals("012345");
                if (!ahead.add(rows.get(i)) && !lastRounds) {
                    falseRows++;
                }
            }
            return falseRows;
        }

        String last() {
            return rows.get(rows.size() - 1);
        }

        int dodgesOf(int bell) {
            int sum = 0;
            for (List<Integer> each : dodgers) {
                for (int one : each) {
                    sum += one == bell ? 1 : 0;
                }
            }
            return sum;
        }
    }

    final List<Person> people = new ArrayList<>();
    final List<List<Integer>> methods = new ArrayList<>();
    final Person[][] bands = new Person[3][6];
    final int[][] wards = new int[3][6];
    int day;
    int touches;
    int falseRows;

    Oracle() {
        for (int[] band : wards) {
            for (int bell = 0; bell < 6; bell++) {
                band[bell] = bell % 4;
            }
        }
    }

    Oracle copy() {
        Oracle other = new Oracle();
        for (Person p : people) {
            Person q = new Person();
            q.number = p.number;
            q.ward = p.ward;
            q.skill = p.skill;
            q.votes = p.votes;
            q.tired = p.tired;
            q.faults = p.faults;
            other.people.add(q);
        }
        for (List<Integer> method : methods) {
            other.methods.add(new ArrayList<>(method));
        }
        for (int band = 0; band < 3; band++) {
            for (int bell = 0; bell < 6; bell++) {
                other.wards[band][bell] = wards[band][bell];
                Person p = bands[band][bell];
                other.bands[band][bell] = p == null ? null : other.people.get(p.number);
            }
        }
        other.day = day;
        other.touches = touches;
        other.falseRows = falseRows;
        return other;
    }

    private static void index(boolean good) {
        if (!good) {
            throw new IndexOutOfBoundsException();
        }
    }

    private static void argument(boolean good) {
        if (!good) {
            throw new IllegalArgumentException();
        }
    }

    private static void state(boolean good) {
        if (!good) {
            throw new IllegalStateException();
        }
    }

    private static boolean within(int x, int least, int most) {
        return least <= x && x <= most;
    }

    private boolean isPerson(int ringer) {
        return within(ringer, 0, people.size() - 1);
    }

    private boolean isMethod(int method) {
        return within(method, 0, methods.size() - 1);
    }

    private static int held(int votes) {
        return votes < 0 ? 0 : votes > 99 ? 99 : votes;
    }

    private int placeOf(Person p) {
        for (int band = 0; band < 3; band++) {
            for (int bell = 0; bell < 6; bell++) {
                if (bands[band][bell] == p) {
                    return band * 10 + bell;
                }
            }
        }
        return -1;
    }

    int ringer(int ward, int skill, int votes) {
        index(within(ward, 0, 3));
        argument(within(skill, 0, 9) && within(votes, 0, 99));
        state(people.size() < 20);
        Person p = new Person();
        p.number = people.size();
        p.ward = ward;
        p.skill = skill;
        p.votes = votes;
        people.add(p);
        return p.number;
    }

    int vote(int ringer, int more) {
        index(isPerson(ringer));
        argument(within(more, -99, 99));
        Person p = people.get(ringer);
        p.votes = held(p.votes + more);
        return p.votes;
    }

    int seat(int band, int bell, int ward) {
        index(within(band, 0, 2) && within(bell, 0, 5) && within(ward, 0, 3));
        int before = wards[band][bell];
        wards[band][bell] = ward;
        return before;
    }

    int elect(int band) {
        index(within(band, 0, 2));
        Arrays.fill(bands[band], null);
        int elected = 0;
        for (int bell = 0; bell < 6; bell++) {
            Person best = null;
            for (Person p : people) {
                boolean can = p.ward == wards[band][bell] && placeOf(p) == -1;
                if (can && (best == null || p.votes > best.votes)) {
                    best = p;
                }
            }
            bands[band][bell] = best;
            elected += best == null ? 0 : 1;
        }
        return elected;
    }

    int put(int band, int bell, int ringer) {
        index(within(band, 0, 2) && within(bell, 0, 5) && isPerson(ringer));
        state(bands[band][bell] == null && placeOf(people.get(ringer)) == -1);
        bands[band][bell] = people.get(ringer);
        return wards[band][bell];
    }

    int leave(int ringer) {
        index(isPerson(ringer));
        int place = placeOf(people.get(ringer));
        state(place != -1);
        bands[place / 10][place % 10] = null;
        return place;
    }

    int told(int ringer, int what) {
        index(isPerson(ringer) && within(what, 0, 7));
        Person p = people.get(ringer);
        int place = placeOf(p);
        int rank = 1;
        for (Person other : people) {
            rank += other.ward == p.ward && other.votes > p.votes ? 1 : 0;
        }
        int[] all = {p.ward, p.skill, p.votes, p.tired, place < 0 ? -1 : place / 10, place < 0 ? -1 : place % 10,
            p.faults, rank};
        return all[what];
    }

    int bell(int band, int bell, int what) {
        index(within(band, 0, 2) && within(bell, 0, 5) && within(what, 0, 2));
        if (what == 0) {
            return wards[band][bell];
        }
        Oracle asked = what == 1 ? this : copy();
        if (what == 2) {
            asked.elect(band);
        }
        Person p = asked.bands[band][bell];
        return p == null ? -1 : p.number;
    }

    int method() {
        state(methods.size() < 5);
        methods.add(new ArrayList<>());
        return methods.size() - 1;
    }

    int add(int method, int change) {
        index(isMethod(method));
        argument(List.of(0, 1, 2, 4, 8, 16, 5, 9, 17, 10, 18, 20, 21).contains(change));
        state(methods.get(method).size() < 12);
        methods.get(method).add(change);
        return methods.get(method).size();
    }

    private static String changed(String row, int change) {
        char[] bells = row.toCharArray();
        for (int pair = 0; pair < 5; pair++) {
            if ((change >> pair) % 2 == 1) {
                bells[pair] = row.charAt(pair + 1);
                bells[pair + 1] = row.charAt(pair);
            }
        }
        return new String(bells);
    }

    private static Story begun() {
        Story story = new Story();
        story.rows.add("012345");
        return story;
    }

    private static void goOn(Story story, List<Integer> changes) {
        for (int change : changes) {
            story.rows.add(changed(story.last(), change));
            int n = story.rows.size();
            List<Integer> dodgers = new ArrayList<>();
            for (char bell = '0'; bell < '6' && n > 2; bell++) {
                int before = story.rows.get(n - 3).indexOf(bell);
                int between = story.rows.get(n - 2).indexOf(bell);
                int now = story.rows.get(n - 1).indexOf(bell);
                if (between > before && now < between || between < before && now > between) {
                    dodgers.add(bell - '0');
                }
            }
            story.dodgers.add(dodgers);
        }
    }

    private static Story touch(List<Integer> changes, int leads) {
        Story story = begun();
        for (int i = 0; i < leads; i++) {
            goOn(story, changes);
        }
        return story;
    }

    private static int courseLeads(List<Integer> changes) {
        int leads = 1;
        while (!touch(changes, leads).last().equals("012345")) {
            leads++;
        }
        return leads;
    }

    private static Story course(List<Integer> changes) {
        return touch(changes, courseLeads(changes));
    }

    int about(int method, int what) {
        index(isMethod(method) && within(what, 0, 5));
        List<Integer> changes = methods.get(method);
        Story course = course(changes);
        switch (what) {
            case 0: return changes.size();
            case 1: return courseLeads(changes);
            case 2: return new HashSet<>(course.rows).size();
            case 3: return course.falseRows();
            case 4:
                int sum = 0;
                for (int bell = 0; bell < 6; bell++) {
                    sum += course.dodgesOf(bell);
                }
                return sum;
            default:
                int home = 0;
                String row = touch(changes, 1).last();
                for (int place = 0; place < 6; place++) {
                    home += row.charAt(place) == '0' + place ? 1 : 0;
                }
                return home;
        }
    }

    int row(int method, int changes) {
        index(isMethod(method));
        argument(within(changes, 0, 200));
        List<Integer> list = methods.get(method);
        state(!list.isEmpty());
        String row = "012345";
        for (int i = 0; i < changes; i++) {
            row = changed(row, list.get(i % list.size()));
        }
        return Integer.parseInt(row, 6);
    }

    int dodges(int method, int bell) {
        index(isMethod(method) && within(bell, 0, 5));
        return course(methods.get(method)).dodgesOf(bell);
    }

    private boolean can(int band, int method) {
        boolean can = !methods.get(method).isEmpty();
        for (Person p : bands[band]) {
            can = can && p != null && p.tired < 15;
        }
        return can;
    }

    int ring(int band, int method, int leads) {
        index(within(band, 0, 2) && isMethod(method));
        argument(within(leads, 1, 12));
        state(can(band, method));
        Story story = touch(methods.get(method), leads);
        int[] own = new int[6];
        for (List<Integer> dodgers : story.dodgers) {
            for (int bell : dodgers) {
                Person p = bands[band][bell];
                p.tired = Math.min(20, p.tired + 1);
                if (p.tired > 2 * p.skill) {
                    p.faults++;
                    own[bell]++;
                }
            }
        }
        int wrong = story.falseRows();
        for (int bell = 0; bell < 6; bell++) {
            Person p = bands[band][bell];
            int more = wrong == 0 && story.last().equals("012345") ? leads : -wrong;
            p.votes = held(p.votes + more - own[bell]);
        }
        touches++;
        falseRows += wrong;
        return wrong;
    }

    int would(int band, int method, int leads) {
        index(within(band, 0, 2) && isMethod(method));
        argument(within(leads, 1, 12));
        if (!can(band, method)) {
            return -1000;
        }
        Oracle then = copy();
        then.ring(band, method, leads);
        int more = 0;
        for (int bell = 0; bell < 6; bell++) {
            more += then.bands[band][bell].votes - bands[band][bell].votes;
        }
        return more;
    }

    int advise(int band) {
        index(within(band, 0, 2));
        int best = -1;
        int most = 0;
        for (int method = 0; method < methods.size(); method++) {
            int more = would(band, method, courseLeads(methods.get(method)));
            if (more > most) {
                most = more;
                best = method;
            }
        }
        return best;
    }

    int count(int what) {
        index(within(what, 0, 8));
        int ringing = 0;
        int full = 0;
        int faults = 0;
        int votes = 0;
        for (Person p : people) {
            ringing += placeOf(p) == -1 ? 0 : 1;
            faults += p.faults;
            votes += p.votes;
        }
        for (Person[] band : bands) {
            full += Arrays.asList(band).contains(null) ? 0 : 1;
        }
        int[] all = {day, people.size(), ringing, methods.size(), full, touches, falseRows, faults, votes};
        return all[what];
    }

    int pass(int days) {
        argument(within(days, 1, 60));
        int[] before = new int[people.size()];
        for (int i = 0; i < before.length; i++) {
            before[i] = placeOf(people.get(i));
        }
        for (int i = 0; i < days; i++) {
            for (Person p : people) {
                p.tired -= Math.min(p.tired, placeOf(p) == -1 ? 5 : 3);
            }
            if (day % 7 == 6) {
                elect(0);
                elect(1);
                elect(2);
            }
            day++;
        }
        int moved = 0;
        for (int i = 0; i < before.length; i++) {
            moved += before[i] == placeOf(people.get(i)) ? 0 : 1;
        }
        return moved;
    }

    int foresee(int ringer, int days, int what) {
        index(isPerson(ringer));
        argument(within(days, 1, 60) && within(what, 3, 5));
        Oracle then = copy();
        then.pass(days);
        return then.told(ringer, what);
    }

    double mean() {
        double sum = 0;
        int ringing = 0;
        for (Person p : people) {
            if (placeOf(p) != -1) {
                sum += p.skill;
                ringing++;
            }
        }
        return ringing == 0 ? 0 : sum / ringing;
    }

    long digest() {
        List<Integer> all = new ArrayList<>();
        for (int what = 0; what < 9; what++) {
            all.add(count(what));
        }
        for (Person p : people) {
            for (int what = 0; what < 8; what++) {
                all.add(told(p.number, what));
            }
        }
        for (int band = 0; band < 3; band++) {
            for (int bell = 0; bell < 6; bell++) {
                for (int what = 0; what < 3; what++) {
                    all.add(bell(band, bell, what));
                }
            }
        }
        for (int method = 0; method < methods.size(); method++) {
            for (int what = 0; what < 6; what++) {
                all.add(about(method, what));
            }
            all.addAll(methods.get(method));
            for (int bell = 0; bell < 6; bell++) {
                all.add(dodges(method, bell));
            }
        }
        long d = 1237;
        for (int x : all) {
            d = d * 31 + x;
        }
        return d;
    }
}
