import java.util.Arrays;

/** A tower of bell ringers who are elected by wards. */
public final class BellRoster {
    private static final int NONE = -1;
    private static final int BANDS = 3;
    private static final int BELLS = 6;
    private static final int SEATS = BANDS * BELLS;
    private static final int WARDS = 4;
    private static final int MAX_RINGERS = 20;
    private static final int MAX_SKILL = 9;
    private static final int MAX_VOTES = 99;
    private static final int MAX_TIRED = 20;
    private static final int TOO_TIRED = 15;
    private static final int REST_OF_RINGING = 3;
    private static final int REST_OF_IDLE = 5;
    private static final int WEEK = 7;
    private static final int ELECTION_DAY = 6;
    private static final int MAX_DAYS = 60;
    private static final int MAX_METHODS = 5;
    private static final int MAX_CHANGES = 12;
    private static final int MAX_CHANGE = 31;
    private static final int MAX_LEADS = 12;
    private static final int MAX_ROW_CHANGES = 200;
    private static final int CANNOT_RING = -1000;
    private static final int TOLD_KINDS = 8;
    private static final int BELL_KINDS = 3;
    private static final int ABOUT_KINDS = 6;
    private static final int COUNT_KINDS = 9;
    private static final int TOLD_TIRED = 3;
    private static final int TOLD_BELL = 5;
    private static final int BELL_ELECTED_NOW = 2;
    // Six bells go round in circles of six in all, so each lead, done again and again,
    // is back at rounds behind six at the latest.
    private static final int MAX_COURSE_LEADS = 6;

    private final Tower tower;
    // What would be is tried out here, so that the tower itself stays as it is.
    private final Tower trial;
    private final Touch touch;
    private final ChangeList[] lists;
    private int listCount;
    private int touchesRung;
    private int falseRowsRung;

    public BellRoster() {
        tower = new Tower();
        trial = new Tower();
        touch = new Touch();
        lists = new ChangeList[MAX_METHODS];
        for (int i = 0; i < MAX_METHODS; i++) {
            lists[i] = new ChangeList();
        }
    }

    // ---- ringers and bands

    public int ringer(int ward, int skill, int votes)
            throws IndexOutOfBoundsException, IllegalArgumentException, IllegalStateException {
        requireIndex(ward, WARDS);
        requireWithin(skill, 0, MAX_SKILL);
        requireWithin(votes, 0, MAX_VOTES);
        if (tower.ringerCount >= MAX_RINGERS) {
            throw new IllegalStateException("there are 20 ringers");
        }
        return tower.enrol(ward, skill, votes);
    }

    public int vote(int ringer, int more) throws IndexOutOfBoundsException, IllegalArgumentException {
        requireIndex(ringer, tower.ringerCount);
        requireWithin(more, -MAX_VOTES, MAX_VOTES);
        tower.changeVotes(ringer, more);
        return tower.votesOf[ringer];
    }

    public int seat(int band, int bell, int ward) throws IndexOutOfBoundsException {
        requireSeat(band, bell);
        requireIndex(ward, WARDS);
        int seat = seatNumber(band, bell);
        int before = tower.wardOfSeat[seat];
        tower.wardOfSeat[seat] = ward;
        return before;
    }

    public int elect(int band) throws IndexOutOfBoundsException {
        requireIndex(band, BANDS);
        tower.electBand(band);
        return tower.ringersIn(band);
    }

    public int put(int band, int bell, int ringer) throws IndexOutOfBoundsException, IllegalStateException {
        requireSeat(band, bell);
        requireIndex(ringer, tower.ringerCount);
        int seat = seatNumber(band, bell);
        if (tower.ringerAt(seat) != NONE) {
            throw new IllegalStateException("the bell has a ringer");
        }
        if (tower.ringsBell(ringer)) {
            throw new IllegalStateException("the ringer rings a bell");
        }
        tower.seatOf[ringer] = seat;
        return tower.wardOfSeat[seat];
    }

    public int leave(int ringer) throws IndexOutOfBoundsException, IllegalStateException {
        requireIndex(ringer, tower.ringerCount);
        if (!tower.ringsBell(ringer)) {
            throw new IllegalStateException("the ringer rings no bell");
        }
        int left = 10 * tower.bandOf(ringer) + tower.bellOf(ringer);
        tower.seatOf[ringer] = NONE;
        return left;
    }

    public int told(int ringer, int what) throws IndexOutOfBoundsException {
        requireIndex(ringer, tower.ringerCount);
        requireIndex(what, TOLD_KINDS);
        return tower.tellOfRinger(ringer, what);
    }

    public int bell(int band, int bell, int what) throws IndexOutOfBoundsException {
        requireSeat(band, bell);
        requireIndex(what, BELL_KINDS);
        int seat = seatNumber(band, bell);
        if (what == 0) {
            return tower.wardOfSeat[seat];
        }
        if (what < BELL_ELECTED_NOW) {
            return tower.ringerAt(seat);
        }
        trial.copyFrom(tower);
        trial.electBand(band);
        return trial.ringerAt(seat);
    }

    // ---- methods

    public int method() throws IllegalStateException {
        if (listCount >= MAX_METHODS) {
            throw new IllegalStateException("there are 5 methods");
        }
        listCount++;
        return listCount - 1;
    }

    public int add(int method, int change)
            throws IndexOutOfBoundsException, IllegalArgumentException, IllegalStateException {
        ChangeList list = listNumbered(method);
        requireWithin(change, 0, MAX_CHANGE);
        // Neighbouring bits are pairs that share a place.
        if ((change & (change >> 1)) != 0) {
            throw new IllegalArgumentException("a place is in two pairs");
        }
        if (list.length >= MAX_CHANGES) {
            throw new IllegalStateException("the method has 12 changes");
        }
        list.append(change);
        list.measureCourse(touch);
        return list.length;
    }

    public int about(int method, int what) throws IndexOutOfBoundsException {
        ChangeList list = listNumbered(method);
        requireIndex(what, ABOUT_KINDS);
        return list.tellOfCourse(what);
    }

    public int row(int method, int changes)
            throws IndexOutOfBoundsException, IllegalArgumentException, IllegalStateException {
        ChangeList list = listNumbered(method);
        requireWithin(changes, 0, MAX_ROW_CHANGES);
        if (list.length == 0) {
            throw new IllegalStateException("the method is empty");
        }
        touch.begin();
        int next = 0;
        for (int rung = 0; rung < changes; rung++) {
            touch.makeChange(list.changeAt(next));
            next = next + 1 < list.length ? next + 1 : 0;
        }
        return touch.rowCode();
    }

    public int dodges(int method, int bell) throws IndexOutOfBoundsException {
        ChangeList list = listNumbered(method);
        requireIndex(bell, BELLS);
        return list.dodgesOf[bell];
    }

    // ---- ringing

    public int ring(int band, int method, int leads)
            throws IndexOutOfBoundsException, IllegalArgumentException, IllegalStateException {
        requireIndex(band, BANDS);
        ChangeList list = listNumbered(method);
        requireWithin(leads, 1, MAX_LEADS);
        if (!canBeRung(list, band)) {
            throw new IllegalStateException("the band cannot ring this method");
        }
        int falseRows = tower.ringTouch(band, list, leads, touch);
        touchesRung++;
        falseRowsRung += falseRows;
        return falseRows;
    }

    public int would(int band, int method, int leads) throws IndexOutOfBoundsException, IllegalArgumentException {
        requireIndex(band, BANDS);
        ChangeList list = listNumbered(method);
        requireWithin(leads, 1, MAX_LEADS);
        return votesBrought(band, list, leads);
    }

    public int advise(int band) throws IndexOutOfBoundsException {
        requireIndex(band, BANDS);
        int best = NONE;
        int most = 0;
        for (int method = 0; method < listCount; method++) {
            ChangeList list = listNumbered(method);
            int brought = votesBrought(band, list, list.courseLeads);
            if (brought > most) {
                most = brought;
                best = method;
            }
        }
        return best;
    }

    public int count(int what) throws IndexOutOfBoundsException {
        requireIndex(what, COUNT_KINDS);
        switch (what) {
            case 0:
                return tower.day;
            case 1:
                return tower.ringerCount;
            case 2:
                return tower.ringersAtBells();
            case 3:
                return listCount;
            case 4:
                return tower.fullBands();
            case 5:
                return touchesRung;
            case 6:
                return falseRowsRung;
            case 7:
                return tower.allFaults();
            default:
                return tower.allVotes();
        }
    }

    // ---- days

    public int pass(int days) throws IllegalArgumentException {
        requireWithin(days, 1, MAX_DAYS);
        trial.copyFrom(tower);
        tower.passDays(days);
        return tower.seatedUnlike(trial);
    }

    public int foresee(int ringer, int days, int what) throws IndexOutOfBoundsException, IllegalArgumentException {
        requireIndex(ringer, tower.ringerCount);
        requireWithin(days, 1, MAX_DAYS);
        requireWithin(what, TOLD_TIRED, TOLD_BELL);
        trial.copyFrom(tower);
        trial.passDays(days);
        return trial.tellOfRinger(ringer, what);
    }

    public double mean() {
        int ringing = tower.ringersAtBells();
        if (ringing == 0) {
            return 0;
        }
        return (double) tower.skillAtBells() / ringing;
    }

    public long digest() {
        long d = 1237;
        for (int what = 0; what < COUNT_KINDS; what++) {
            d = d * 31 + count(what);
        }
        d = digestRingers(d);
        d = digestBands(d);
        return digestMethods(d);
    }

    private long digestRingers(long start) {
        long d = start;
        for (int ringer = 0; ringer < tower.ringerCount; ringer++) {
            for (int what = 0; what < TOLD_KINDS; what++) {
                d = d * 31 + told(ringer, what);
            }
        }
        return d;
    }

    private long digestBands(long start) {
        long d = start;
        for (int band = 0; band < BANDS; band++) {
            for (int bell = 0; bell < BELLS; bell++) {
                for (int what = 0; what < BELL_KINDS; what++) {
                    d = d * 31 + bell(band, bell, what);
                }
            }
        }
        return d;
    }

    private long digestMethods(long start) {
        long d = start;
        for (int method = 0; method < listCount; method++) {
            for (int what = 0; what < ABOUT_KINDS; what++) {
                d = d * 31 + about(method, what);
            }
            ChangeList list = listNumbered(method);
            for (int i = 0; i < list.length; i++) {
                d = d * 31 + list.changeAt(i);
            }
            for (int bell = 0; bell < BELLS; bell++) {
                d = d * 31 + dodges(method, bell);
            }
        }
        return d;
    }

    private boolean canBeRung(ChangeList list, int band) {
        return list.length > 0 && tower.isFresh(band);
    }

    private int votesBrought(int band, ChangeList list, int leads) {
        if (!canBeRung(list, band)) {
            return CANNOT_RING;
        }
        trial.copyFrom(tower);
        trial.ringTouch(band, list, leads, touch);
        // Only the six ringers' votes are changed by a touch, so all votes tell theirs.
        return trial.allVotes() - tower.allVotes();
    }

    private ChangeList listNumbered(int method) {
        requireIndex(method, listCount);
        return lists[method];
    }

    private static int seatNumber(int band, int bell) {
        return band * BELLS + bell;
    }

    private static void requireSeat(int band, int bell) {
        requireIndex(band, BANDS);
        requireIndex(bell, BELLS);
    }

    private static void requireIndex(int index, int size) {
        if (index < 0 || index >= size) {
            throw new IndexOutOfBoundsException("there is no such number");
        }
    }

    private static void requireWithin(int value, int least, int most) {
        if (value < least || value > most) {
            throw new IllegalArgumentException("outside of what is allowed");
        }
    }

    /** The ringers, the bands and the day: all that a trial of the future needs a copy of. */
    private static final class Tower {
        private final int[] wardOf = new int[MAX_RINGERS];
        private final int[] skillOf = new int[MAX_RINGERS];
        private final int[] votesOf = new int[MAX_RINGERS];
        private final int[] tiredOf = new int[MAX_RINGERS];
        private final int[] faultsOf = new int[MAX_RINGERS];
        private final int[] touchFaultsOf = new int[MAX_RINGERS];
        // A seat is a bell of a band; it stands with its ringer alone, so that no second list can contradict it.
        private final int[] seatOf = new int[MAX_RINGERS];
        private final int[] wardOfSeat = new int[SEATS];
        private int ringerCount;
        private int day;

        Tower() {
            for (int seat = 0; seat < SEATS; seat++) {
                wardOfSeat[seat] = seat % BELLS % WARDS;
            }
        }

        void copyFrom(Tower other) {
            System.arraycopy(other.wardOf, 0, wardOf, 0, MAX_RINGERS);
            System.arraycopy(other.skillOf, 0, skillOf, 0, MAX_RINGERS);
            System.arraycopy(other.votesOf, 0, votesOf, 0, MAX_RINGERS);
            System.arraycopy(other.tiredOf, 0, tiredOf, 0, MAX_RINGERS);
            System.arraycopy(other.faultsOf, 0, faultsOf, 0, MAX_RINGERS);
            System.arraycopy(other.seatOf, 0, seatOf, 0, MAX_RINGERS);
            System.arraycopy(other.wardOfSeat, 0, wardOfSeat, 0, SEATS);
            ringerCount = other.ringerCount;
            day = other.day;
        }

        int enrol(int ward, int skill, int votes) {
            if (ringerCount >= MAX_RINGERS) {
                return NONE;
            }
            int ringer = ringerCount;
            wardOf[ringer] = ward;
            skillOf[ringer] = skill;
            votesOf[ringer] = votes;
            seatOf[ringer] = NONE;
            ringerCount++;
            return ringer;
        }

        void changeVotes(int ringer, int more) {
            votesOf[ringer] = Math.max(0, Math.min(MAX_VOTES, votesOf[ringer] + more));
        }

        boolean ringsBell(int ringer) {
            return seatOf[ringer] != NONE;
        }

        int bandOf(int ringer) {
            return ringsBell(ringer) ? seatOf[ringer] / BELLS : NONE;
        }

        int bellOf(int ringer) {
            return ringsBell(ringer) ? seatOf[ringer] % BELLS : NONE;
        }

        int ringerAt(int seat) {
            for (int ringer = 0; ringer < ringerCount; ringer++) {
                if (seatOf[ringer] == seat) {
                    return ringer;
                }
            }
            return NONE;
        }

        int rankOf(int ringer) {
            int rank = 1;
            for (int other = 0; other < ringerCount; other++) {
                if (wardOf[other] == wardOf[ringer] && votesOf[other] > votesOf[ringer]) {
                    rank++;
                }
            }
            return rank;
        }

        int tellOfRinger(int ringer, int what) {
            switch (what) {
                case 0:
                    return wardOf[ringer];
                case 1:
                    return skillOf[ringer];
                case 2:
                    return votesOf[ringer];
                case TOLD_TIRED:
                    return tiredOf[ringer];
                case 4:
                    return bandOf(ringer);
                case TOLD_BELL:
                    return bellOf(ringer);
                case 6:
                    return faultsOf[ringer];
                default:
                    return rankOf(ringer);
            }
        }

        void electBand(int band) {
            for (int ringer = 0; ringer < ringerCount; ringer++) {
                if (bandOf(ringer) == band) {
                    seatOf[ringer] = NONE;
                }
            }
            int seat = band * BELLS;
            for (int bell = 0; bell < BELLS; bell++) {
                electTo(seat + bell);
            }
        }

        private void electTo(int seat) {
            int best = NONE;
            int most = -1;
            for (int ringer = 0; ringer < ringerCount; ringer++) {
                if (!ringsBell(ringer) && wardOf[ringer] == wardOfSeat[seat] && votesOf[ringer] > most) {
                    most = votesOf[ringer];
                    best = ringer;
                }
            }
            if (best != NONE) {
                seatOf[best] = seat;
            }
        }

        int ringersIn(int band) {
            int ringing = 0;
            for (int ringer = 0; ringer < ringerCount; ringer++) {
                if (bandOf(ringer) == band) {
                    ringing++;
                }
            }
            return ringing;
        }

        int ringersAtBells() {
            int ringing = 0;
            for (int band = 0; band < BANDS; band++) {
                ringing += ringersIn(band);
            }
            return ringing;
        }

        int fullBands() {
            int full = 0;
            for (int band = 0; band < BANDS; band++) {
                if (ringersIn(band) == BELLS) {
                    full++;
                }
            }
            return full;
        }

        int skillAtBells() {
            int skill = 0;
            for (int ringer = 0; ringer < ringerCount; ringer++) {
                if (ringsBell(ringer)) {
                    skill += skillOf[ringer];
                }
            }
            return skill;
        }

        int allFaults() {
            int faults = 0;
            for (int ringer = 0; ringer < ringerCount; ringer++) {
                faults += faultsOf[ringer];
            }
            return faults;
        }

        int allVotes() {
            int votes = 0;
            for (int ringer = 0; ringer < ringerCount; ringer++) {
                votes += votesOf[ringer];
            }
            return votes;
        }

        /** Whether each bell of a band has a ringer who is not too tired for a touch. */
        boolean isFresh(int band) {
            int fresh = 0;
            for (int ringer = 0; ringer < ringerCount; ringer++) {
                if (bandOf(ringer) == band && tiredOf[ringer] < TOO_TIRED) {
                    fresh++;
                }
            }
            return fresh == BELLS;
        }

        /** Returns the false rows of the touch. */
        int ringTouch(int band, ChangeList list, int leads, Touch touch) {
            Arrays.fill(touchFaultsOf, 0);
            touch.begin();
            for (int lead = 0; lead < leads; lead++) {
                for (int i = 0; i < list.length; i++) {
                    touch.makeChange(list.changeAt(i));
                    tireDodgers(band, touch);
                }
            }
            int falseRows = touch.falseRows();
            boolean brought = falseRows == 0 && touch.isRounds();
            int more = brought ? leads : -falseRows;
            for (int ringer = 0; ringer < ringerCount; ringer++) {
                if (bandOf(ringer) == band) {
                    changeVotes(ringer, more - touchFaultsOf[ringer]);
                }
            }
            return falseRows;
        }

        // Each ringer rings one bell, so the order of the bells makes no difference here.
        private void tireDodgers(int band, Touch touch) {
            for (int ringer = 0; ringer < ringerCount; ringer++) {
                if (bandOf(ringer) == band && touch.hasDodged(bellOf(ringer))) {
                    tire(ringer);
                }
            }
        }

        private void tire(int ringer) {
            tiredOf[ringer] = Math.min(MAX_TIRED, tiredOf[ringer] + 1);
            if (tiredOf[ringer] > 2 * skillOf[ringer]) {
                faultsOf[ringer]++;
                touchFaultsOf[ringer]++;
            }
        }

        void passDays(int days) {
            for (int i = 0; i < days; i++) {
                passDay();
            }
        }

        private void passDay() {
            for (int ringer = 0; ringer < ringerCount; ringer++) {
                int rest = ringsBell(ringer) ? REST_OF_RINGING : REST_OF_IDLE;
                tiredOf[ringer] = Math.max(0, tiredOf[ringer] - rest);
            }
            if (day % WEEK == ELECTION_DAY) {
                for (int band = 0; band < BANDS; band++) {
                    electBand(band);
                }
            }
            day++;
        }

        int seatedUnlike(Tower before) {
            int moved = 0;
            for (int ringer = 0; ringer < ringerCount; ringer++) {
                if (seatOf[ringer] != before.seatOf[ringer]) {
                    moved++;
                }
            }
            return moved;
        }
    }

    /** A method of the document: its changes, and what its course is like. */
    private static final class ChangeList {
        private final int[] changes = new int[MAX_CHANGES];
        private final int[] dodgesOf = new int[BELLS];
        private int length;
        // The course of an empty method is one lead with rounds alone.
        private int courseLeads = 1;
        private int courseRows = 1;
        private int courseFalseRows;
        private int homeBehindLead = BELLS;

        int changeAt(int index) {
            return index >= 0 && index < length ? changes[index] : 0;
        }

        void append(int change) {
            if (length < MAX_CHANGES) {
                changes[length] = change;
                length++;
            }
        }

        /** Kept from each change to the next one added, as a course is asked for far more often. */
        void measureCourse(Touch touch) {
            Arrays.fill(dodgesOf, 0);
            touch.begin();
            goThroughLead(touch);
            homeBehindLead = touch.bellsAtHome();
            int leads = 1;
            while (leads < MAX_COURSE_LEADS && !touch.isRounds()) {
                goThroughLead(touch);
                leads++;
            }
            courseLeads = leads;
            courseRows = touch.differentRows();
            courseFalseRows = touch.falseRows();
        }

        private void goThroughLead(Touch touch) {
            for (int i = 0; i < length; i++) {
                touch.makeChange(changes[i]);
                for (int bell = 0; bell < BELLS; bell++) {
                    if (touch.hasDodged(bell)) {
                        dodgesOf[bell]++;
                    }
                }
            }
        }

        int tellOfCourse(int what) {
            switch (what) {
                case 0:
                    return length;
                case 1:
                    return courseLeads;
                case 2:
                    return courseRows;
                case 3:
                    return courseFalseRows;
                case 4:
                    return allDodges();
                default:
                    return homeBehindLead;
            }
        }

        private int allDodges() {
            int sum = 0;
            for (int bell = 0; bell < BELLS; bell++) {
                sum += dodgesOf[bell];
            }
            return sum;
        }
    }

    /** A touch while it is rung, change by change. */
    private static final class Touch {
        // The places of five bells tell that of the sixth: 6 * 6 * 6 * 6 * 6 sets of places, a bit for each.
        private static final int TELLING_BELLS = 5;
        private static final int WORD_BITS = 64;
        private static final int SEEN_WORDS = 122;

        private final int[] placeOf = new int[BELLS];
        // By how many places each bell moved by the last change, and by the one ahead of it.
        private final int[] moveOf = new int[BELLS];
        private final int[] moveAheadOf = new int[BELLS];
        private final long[] seen = new long[SEEN_WORDS];
        private int changesMade;
        private int repeatedRows;

        void begin() {
            Arrays.fill(seen, 0L);
            for (int bell = 0; bell < BELLS; bell++) {
                placeOf[bell] = bell;
                moveOf[bell] = 0;
            }
            changesMade = 0;
            repeatedRows = 0;
            noteRow();
        }

        void makeChange(int change) {
            for (int bell = 0; bell < BELLS; bell++) {
                int move = moveFrom(placeOf[bell], change);
                moveAheadOf[bell] = moveOf[bell];
                moveOf[bell] = move;
                placeOf[bell] += move;
            }
            changesMade++;
            noteRow();
        }

        private static int moveFrom(int place, int change) {
            if ((change >> place & 1) != 0) {
                return 1;
            }
            if (place > 0 && (change >> (place - 1) & 1) != 0) {
                return -1;
            }
            return 0;
        }

        private void noteRow() {
            int key = 0;
            for (int bell = 0; bell < TELLING_BELLS; bell++) {
                key = key * BELLS + placeOf[bell];
            }
            int word = key / WORD_BITS;
            if (word < 0 || word >= SEEN_WORDS) {
                return;
            }
            long bit = 1L << key % WORD_BITS;
            if ((seen[word] & bit) != 0) {
                repeatedRows++;
            }
            seen[word] |= bit;
        }

        boolean hasDodged(int bell) {
            if (bell < 0 || bell >= BELLS) {
                return false;
            }
            return moveOf[bell] != 0 && moveOf[bell] == -moveAheadOf[bell];
        }

        int bellsAtHome() {
            int home = 0;
            for (int bell = 0; bell < BELLS; bell++) {
                if (placeOf[bell] == bell) {
                    home++;
                }
            }
            return home;
        }

        boolean isRounds() {
            return bellsAtHome() == BELLS;
        }

        /** As if the touch ended here: rounds behind its last change is not false. */
        int falseRows() {
            return isRounds() && changesMade > 0 ? repeatedRows - 1 : repeatedRows;
        }

        int differentRows() {
            return changesMade + 1 - repeatedRows;
        }

        int rowCode() {
            int code = 0;
            for (int place = 0; place < BELLS; place++) {
                code = code * BELLS + bellAt(place);
            }
            return code;
        }

        private int bellAt(int place) {
            for (int bell = 0; bell < BELLS; bell++) {
                if (placeOf[bell] == place) {
                    return bell;
                }
            }
            return 0;
        }
    }
}
