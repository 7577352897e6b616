import java.util.Arrays;

/** The desk that sends interpreters to courts; ../shared/DOC.md has its promises. */
public final class HearingDesk {
    public static final int NONE = -1;

    private static final int DAYS = 1000;
    private static final int DAY_MINUTES = 1440;
    private static final int TOWNS = 6;
    private static final int FIRST_WAY = 60;
    private static final int MOST_WAY = 300;
    private static final int FIRST_REST = 30;
    private static final int MOST_REST = 120;
    private static final int TONGUES = 10;
    private static final int COURT = 0;
    private static final int MOST_GRADE = 5;
    private static final int PERSONS = 5;
    private static final int PAPERS = 40;
    private static final int CASES = 20;

    private static final int HEARINGS = 24;
    private static final int DAY_HEARINGS = 4;
    private static final int LEAST_LENGTH = 10;
    private static final int MOST_LENGTH = 240;
    private static final int LONG_ABOVE = 90;
    private static final int TURN_MINUTES = 30;
    private static final int MOST_AHEAD = 100000;
    // Every ordered pair of persons: more than any hearing's pairs or relays.
    private static final int TEAMS = PERSONS * (PERSONS - 1);
    private static final int SETS = 1 << DAY_HEARINGS;

    private static final int TAPE_BYTES = 600;
    private static final int FEED_BYTES = 20;
    // The shortest clause, from0way1 with its semicolon, has ten bytes.
    private static final int CLAUSES = (TAPE_BYTES + 1) / 10;
    private static final int NUMBER_DIGITS = 5;
    private static final int WRONG_PLACE = 1;
    private static final int WRONG_NUMBER = 2;

    private static final int LEAST = 0;
    private static final int WAY = 1;
    private static final int PAIR = 2;
    private static final int RELAY = 3;
    private static final int LATE = 4;
    private static final int RATE = 5;
    private static final int KINDS = 6;
    private static final int TELLS_LATE_SHARE = 5;
    private static final int TELLS_RATE = 10;
    private static final int WHOLE = 100;
    private static final int MOST_LATE_SHARE = 100;

    private static final int ASKED = 60;
    private static final int REASONS = 10;

    private final Travel travel;
    private final People people;
    private final Papers papers;
    private final Docket docket;
    private final Teams found;
    private final DaySheet sheet;
    private final Planner planner;
    private final Tape tape;
    private final Inquiries inquiries;
    private FeeText text;
    private FeeText spare;

    public HearingDesk() {
        travel = new Travel();
        people = new People();
        papers = new Papers();
        docket = new Docket();
        found = new Teams();
        sheet = new DaySheet();
        planner = new Planner(sheet);
        tape = new Tape();
        inquiries = new Inquiries();
        text = new FeeText();
        spare = new FeeText();
    }

    public int way(int a, int b, int minutes) {
        if (!isTown(a) || !isTown(b) || a == b || !within(minutes, 0, MOST_WAY)) {
            return NONE;
        }
        int before = travel.between(a, b);
        travel.setWay(a, b, minutes);
        return before;
    }

    public boolean dialect(int tongue, int of) {
        if (!within(tongue, 2, TONGUES - 1) || !within(of, 0, tongue - 1)) {
            return false;
        }
        papers.parent[tongue] = of;
        return true;
    }

    public int person(int town) {
        return isTown(town) ? people.add(town) : NONE;
    }

    public int paper(int person, int tongue, int grade, int first, int last) {
        boolean asTold = people.has(person) && isTongue(tongue) && isGrade(grade)
                && isDay(first) && isDay(last) && first <= last;
        return asTold ? papers.add(person, tongue, grade, first, last) : NONE;
    }

    public boolean withdraw(int paper, int last) {
        return isDay(last) && papers.shorten(paper, last);
    }

    public int grade(int person, int tongue, int day) {
        if (!people.has(person) || !isTongue(tongue) || !isDay(day)) {
            return NONE;
        }
        return papers.gradesOf(person, day)[tongue];
    }

    public boolean bar(int person, int which, boolean is) {
        return people.has(person) && isCase(which) && people.setBarred(person, which, is);
    }

    public int rest(int minutes) {
        if (!within(minutes, 0, MOST_REST)) {
            return NONE;
        }
        int before = travel.rest;
        travel.rest = minutes;
        return before;
    }

    public int hearing(int which, int day, int begin, int length, int town, int tongue, int grade) {
        boolean asTold = isCase(which) && isSpan(day, begin, length)
                && isTown(town) && isTongue(tongue) && tongue != COURT && isGrade(grade);
        if (!asTold || docket.isFull() || docket.liveOn(day, null) >= DAY_HEARINGS) {
            return NONE;
        }
        Hearing made = new Hearing(which, length, town, tongue, grade);
        made.day = day;
        made.begin = begin;
        return docket.add(made);
    }

    public boolean move(int hearing, int day, int begin) {
        Hearing moved = docket.get(hearing);
        if (moved == null || moved.cancelled || !isSpan(day, begin, moved.length)
                || docket.liveOn(day, moved) >= DAY_HEARINGS) {
            return false;
        }
        moved.day = day;
        moved.begin = begin;
        return true;
    }

    public boolean cancel(int hearing, int ahead) {
        Hearing ended = docket.get(hearing);
        if (ended == null || ended.cancelled || !within(ahead, 0, MOST_AHEAD)) {
            return false;
        }
        ended.cancelled = true;
        ended.ahead = ahead;
        return true;
    }

    public int teams(int hearing) {
        Hearing asked = docket.get(hearing);
        if (asked == null) {
            return NONE;
        }
        found.find(asked, people, papers);
        return found.size;
    }

    public int team(int hearing, int i, int what) {
        Hearing asked = docket.get(hearing);
        if (asked == null) {
            return NONE;
        }
        found.find(asked, people, papers);
        switch (what) {
            case 0:
                return found.firstOf(i);
            case 1:
                return found.secondOf(i);
            case 2:
                return found.relayOf(i);
            default:
                return NONE;
        }
    }

    public int plan(int day, boolean keep) {
        if (!isDay(day)) {
            return NONE;
        }
        sheet.gather(docket, day);
        planner.prepare(people, papers, travel);
        planner.layOut(keep);
        return planner.without;
    }

    public int planned(int what) {
        if (!planner.done) {
            return NONE;
        }
        switch (what) {
            case 0:
                return planner.size;
            case 1:
                return planner.without;
            case 2:
                return planner.changes;
            case 3:
                return planner.trips;
            default:
                return NONE;
        }
    }

    public int seat(int hearing, int which) {
        Hearing asked = docket.get(hearing);
        if (asked == null || !within(which, 0, 1)) {
            return NONE;
        }
        return which == 0 ? asked.firstSeat : asked.secondSeat;
    }

    public int turn(int hearing, int m) {
        Hearing asked = docket.get(hearing);
        if (asked == null || !within(m, 0, asked.length - 1)) {
            return NONE;
        }
        boolean secondsTurn = asked.isLong() && m / TURN_MINUTES % 2 == 1;
        return secondsTurn ? asked.secondSeat : asked.firstSeat;
    }

    public int journeys(int person, int day) {
        if (!people.has(person) || !isDay(day)) {
            return NONE;
        }
        sheet.gather(docket, day);
        return sheet.tripOf(people.homeOf(person), sheet.seatedSet(person), travel);
    }

    public int feed(int a, int b, int c, int d, int e) {
        if (!tape.hasRoomFor(FEED_BYTES)) {
            return NONE;
        }
        tape.append(a);
        tape.append(b);
        tape.append(c);
        tape.append(d);
        tape.append(e);
        return tape.size;
    }

    public int end(int n) {
        if (!within(n, 0, tape.size)) {
            return NONE;
        }
        tape.size = n;
        return n;
    }

    public int fees() {
        int fault = tape.readInto(spare);
        tape.size = 0;
        if (fault == 0) {
            FeeText before = text;
            text = spare;
            spare = before;
        }
        return fault;
    }

    public int tells(int day, int what) {
        boolean isRate = within(what, TELLS_RATE + 1, TELLS_RATE + MOST_GRADE);
        if (!isDay(day) || !(isRate || within(what, LEAST, TELLS_LATE_SHARE))) {
            return NONE;
        }
        return text.told(day, what);
    }

    public long fee(int person, int day) {
        if (!people.has(person) || !isDay(day)) {
            return NONE;
        }
        long sum = 0;
        for (int i = 0; i < docket.size; i++) {
            Hearing one = docket.get(i);
            if (one != null && one.day == day && one.isSeated(person)) {
                sum += text.earnedIn(one);
            }
        }
        sheet.gather(docket, day);
        long trip = sheet.tripOf(people.homeOf(person), sheet.seatedSet(person), travel);
        return sum + trip / 10 * text.told(day, WAY);
    }

    public int ask(int hearing, int person, int day) {
        if (docket.get(hearing) == null || !people.has(person) || !isDay(day)) {
            return NONE;
        }
        return inquiries.add(hearing, person, day);
    }

    public boolean answer(int asked, int day, boolean yes, int why) {
        return isDay(day) && within(why, 0, REASONS - 1) && inquiries.close(asked, day, yes, why);
    }

    public int known(int asked, int day, int what) {
        if (!isDay(day) || !inquiries.isAskedBy(asked, day)) {
            return NONE;
        }
        boolean isAnswered = inquiries.isAnsweredBy(asked, day);
        switch (what) {
            case 0:
                return inquiries.hearing[asked];
            case 1:
                return inquiries.person[asked];
            case 2:
                return inquiries.askDay[asked];
            case 3:
                return isAnswered ? inquiries.said[asked] : NONE;
            case 4:
                return isAnswered ? inquiries.reason[asked] : NONE;
            default:
                return NONE;
        }
    }

    public int refusals(int hearing, int day) {
        boolean isSuch = hearing == NONE || docket.get(hearing) != null;
        return isSuch && isDay(day) ? inquiries.refusedBy(hearing, day) : NONE;
    }

    public int count(int what) {
        switch (what) {
            case 0:
                return people.size;
            case 1:
                return papers.size;
            case 2:
                return docket.size;
            case 3:
                return docket.cancelledSize();
            case 4:
                return inquiries.size;
            case 5:
                return tape.size;
            case 6:
                return text.size;
            case 7:
                return travel.rest;
            default:
                return NONE;
        }
    }

    private static boolean within(int number, int least, int most) {
        return number >= least && number <= most;
    }

    private static boolean isDay(int day) {
        return within(day, 0, DAYS - 1);
    }

    private static boolean isTown(int town) {
        return within(town, 0, TOWNS - 1);
    }

    private static boolean isTongue(int tongue) {
        return within(tongue, 0, TONGUES - 1);
    }

    private static boolean isGrade(int grade) {
        return within(grade, 1, MOST_GRADE);
    }

    private static boolean isCase(int which) {
        return within(which, 0, CASES - 1);
    }

    private static boolean isSpan(int day, int begin, int length) {
        return isDay(day) && within(begin, 0, DAY_MINUTES - 1)
                && within(length, LEAST_LENGTH, MOST_LENGTH) && begin + length <= DAY_MINUTES;
    }

    /** The ways between towns, and the rest between hearings. */
    private static final class Travel {
        private final int[] ways;
        int rest;

        Travel() {
            ways = new int[TOWNS * TOWNS];
            for (int i = 0; i < TOWNS * TOWNS; i++) {
                ways[i] = i / TOWNS == i % TOWNS ? 0 : FIRST_WAY;
            }
            rest = FIRST_REST;
        }

        int between(int a, int b) {
            return isTown(a) && isTown(b) ? ways[a * TOWNS + b] : 0;
        }

        void setWay(int a, int b, int minutes) {
            if (isTown(a) && isTown(b)) {
                ways[a * TOWNS + b] = minutes;
                ways[b * TOWNS + a] = minutes;
            }
        }

        boolean allows(Hearing ahead, Hearing next) {
            int free = next.begin - (ahead.begin + ahead.length);
            return free >= rest && free >= between(ahead.town, next.town);
        }
    }

    /** The persons: where each lives and which cases each is barred from. */
    private static final class People {
        private final int[] homes;
        private final boolean[] barred;
        int size;

        People() {
            homes = new int[PERSONS];
            barred = new boolean[PERSONS * CASES];
        }

        boolean has(int person) {
            return person >= 0 && person < size && person < PERSONS;
        }

        int add(int town) {
            if (size >= PERSONS) {
                return NONE;
            }
            homes[size] = town;
            size++;
            return size - 1;
        }

        int homeOf(int person) {
            return has(person) ? homes[person] : NONE;
        }

        boolean isBarred(int person, int which) {
            return has(person) && isCase(which) && barred[person * CASES + which];
        }

        boolean setBarred(int person, int which, boolean is) {
            if (!has(person) || !isCase(which) || barred[person * CASES + which] == is) {
                return false;
            }
            barred[person * CASES + which] = is;
            return true;
        }
    }

    /** The papers, and which tongue is a dialect of which (0: of none). */
    private static final class Papers {
        final int[] parent;
        private final int[] person;
        private final int[] tongue;
        private final int[] grade;
        private final int[] first;
        private final int[] last;
        private final int[] grades;
        int size;

        Papers() {
            parent = new int[TONGUES];
            person = new int[PAPERS];
            tongue = new int[PAPERS];
            grade = new int[PAPERS];
            first = new int[PAPERS];
            last = new int[PAPERS];
            grades = new int[TONGUES];
        }

        int add(int whose, int inTongue, int ofGrade, int from, int to) {
            if (size >= PAPERS) {
                return NONE;
            }
            person[size] = whose;
            tongue[size] = inTongue;
            grade[size] = ofGrade;
            first[size] = from;
            last[size] = to;
            size++;
            return size - 1;
        }

        boolean shorten(int paper, int to) {
            if (paper < 0 || paper >= size || paper >= PAPERS) {
                return false;
            }
            last[paper] = Math.min(last[paper], to);
            return true;
        }

        /** A person's grades by tongue, in a row that the next call writes anew. */
        int[] gradesOf(int whose, int day) {
            Arrays.fill(grades, 0);
            for (int i = 0; i < size && i < PAPERS; i++) {
                if (person[i] == whose && first[i] <= day && day <= last[i]) {
                    grades[tongue[i]] = Math.max(grades[tongue[i]], grade[i]);
                }
            }
            // A dialect has a greater number than what it is a dialect of, so one pass upwards does.
            for (int t = 2; t < TONGUES; t++) {
                if (parent[t] != COURT) {
                    grades[t] = Math.max(grades[t], grades[parent[t]] - 1);
                }
            }
            return grades;
        }
    }

    /** One hearing with its seats. */
    private static final class Hearing {
        final int which;
        final int length;
        final int town;
        final int tongue;
        final int grade;
        int day;
        int begin;
        boolean cancelled;
        int ahead;
        int firstSeat;
        int secondSeat;

        Hearing(int which, int length, int town, int tongue, int grade) {
            this.which = which;
            this.length = length;
            this.town = town;
            this.tongue = tongue;
            this.grade = grade;
            firstSeat = NONE;
            secondSeat = NONE;
        }

        boolean isLong() {
            return length > LONG_ABOVE;
        }

        boolean isSeated(int person) {
            return person != NONE && (firstSeat == person || secondSeat == person);
        }

        /** How many of those who have seats are neither of these two. */
        int changesTo(int first, int second) {
            return leaves(firstSeat, first, second) + leaves(secondSeat, first, second);
        }

        private static int leaves(int seated, int first, int second) {
            return seated != NONE && seated != first && seated != second ? 1 : 0;
        }
    }

    /** All hearings by their numbers. */
    private static final class Docket {
        private final Hearing[] all;
        int size;

        Docket() {
            all = new Hearing[HEARINGS];
        }

        boolean isFull() {
            return size >= HEARINGS;
        }

        int add(Hearing made) {
            if (isFull()) {
                return NONE;
            }
            all[size] = made;
            size++;
            return size - 1;
        }

        Hearing get(int number) {
            return number >= 0 && number < size && number < HEARINGS ? all[number] : null;
        }

        int liveOn(int day, Hearing butFor) {
            int live = 0;
            for (int i = 0; i < size; i++) {
                Hearing one = get(i);
                if (one != null && one != butFor && one.day == day && !one.cancelled) {
                    live++;
                }
            }
            return live;
        }

        int cancelledSize() {
            int cancelled = 0;
            for (int i = 0; i < size; i++) {
                Hearing one = get(i);
                if (one != null && one.cancelled) {
                    cancelled++;
                }
            }
            return cancelled;
        }
    }

    /** The teams of one hearing, in their order. */
    private static final class Teams {
        private final int[] first;
        private final int[] second;
        private final int[] relay;
        private final boolean[] able;
        int size;

        Teams() {
            first = new int[TEAMS];
            second = new int[TEAMS];
            relay = new int[TEAMS];
            able = new boolean[PERSONS * TONGUES];
        }

        void find(Hearing hearing, People people, Papers papers) {
            size = 0;
            for (int p = 0; p < PERSONS; p++) {
                markAble(p, hearing, people, papers);
            }
            if (hearing.isLong()) {
                addPairs(hearing.tongue);
                return;
            }
            addSingles(hearing.tongue);
            if (size == 0) {
                addRelays(hearing.tongue);
            }
        }

        int firstOf(int i) {
            return has(i) ? first[i] : NONE;
        }

        int secondOf(int i) {
            return has(i) ? second[i] : NONE;
        }

        int relayOf(int i) {
            return has(i) ? relay[i] : NONE;
        }

        private boolean has(int i) {
            return i >= 0 && i < size && i < TEAMS;
        }

        private void markAble(int person, Hearing hearing, People people, Papers papers) {
            boolean mayCome = people.has(person) && !people.isBarred(person, hearing.which);
            int[] grades = papers.gradesOf(person, hearing.day);
            for (int t = 0; t < TONGUES; t++) {
                able[person * TONGUES + t] = mayCome && grades[t] >= hearing.grade;
            }
        }

        private boolean isAble(int person, int a, int b) {
            return able[person * TONGUES + a] && able[person * TONGUES + b];
        }

        private void addPairs(int tongue) {
            for (int x = 0; x < PERSONS; x++) {
                for (int y = x + 1; y < PERSONS; y++) {
                    if (isAble(x, COURT, tongue) && isAble(y, COURT, tongue)) {
                        add(x, y, NONE);
                    }
                }
            }
        }

        private void addSingles(int tongue) {
            for (int x = 0; x < PERSONS; x++) {
                if (isAble(x, COURT, tongue)) {
                    add(x, NONE, NONE);
                }
            }
        }

        private void addRelays(int tongue) {
            for (int x = 0; x < PERSONS; x++) {
                for (int y = 0; y < PERSONS; y++) {
                    int between = x == y ? NONE : relayTongue(x, y, tongue);
                    if (between != NONE) {
                        add(x, y, between);
                    }
                }
            }
        }

        private int relayTongue(int x, int y, int tongue) {
            for (int m = 1; m < TONGUES; m++) {
                if (m != tongue && isAble(x, COURT, m) && isAble(y, m, tongue)) {
                    return m;
                }
            }
            return NONE;
        }

        private void add(int x, int y, int between) {
            if (size < TEAMS) {
                first[size] = x;
                second[size] = y;
                relay[size] = between;
                size++;
            }
        }
    }

    /** The hearings of one day that are not cancelled; a set of them has bit i for place i by number. */
    private static final class DaySheet {
        private final Hearing[] byNumber;
        private final int[] byBegin;
        int size;

        DaySheet() {
            byNumber = new Hearing[DAY_HEARINGS];
            byBegin = new int[DAY_HEARINGS];
        }

        void gather(Docket docket, int day) {
            size = 0;
            for (int i = 0; i < docket.size; i++) {
                Hearing one = docket.get(i);
                if (one != null && one.day == day && !one.cancelled && size < DAY_HEARINGS) {
                    byNumber[size] = one;
                    placeByBegin(one.begin);
                    size++;
                }
            }
        }

        /** Behind those of the same begin: they came by their numbers. */
        private void placeByBegin(int begin) {
            int at = size;
            for (int i = size - 1; i >= 0; i--) {
                Hearing ahead = get(byBegin[i]);
                if (ahead == null || ahead.begin <= begin) {
                    break;
                }
                byBegin[i + 1] = byBegin[i];
                at = i;
            }
            byBegin[at] = size;
        }

        Hearing get(int place) {
            return place >= 0 && place < size && place < DAY_HEARINGS ? byNumber[place] : null;
        }

        int seatedSet(int person) {
            int set = 0;
            for (int i = 0; i < size; i++) {
                Hearing one = get(i);
                if (one != null && one.isSeated(person)) {
                    set |= 1 << i;
                }
            }
            return set;
        }

        boolean holds(int set, Travel travel) {
            Hearing ahead = null;
            for (int i = 0; i < size && i < DAY_HEARINGS; i++) {
                Hearing next = memberAt(i, set);
                if (next != null) {
                    if (ahead != null && !travel.allows(ahead, next)) {
                        return false;
                    }
                    ahead = next;
                }
            }
            return true;
        }

        int tripOf(int home, int set, Travel travel) {
            int town = home;
            int trip = 0;
            for (int i = 0; i < size && i < DAY_HEARINGS; i++) {
                Hearing next = memberAt(i, set);
                if (next != null) {
                    trip += travel.between(town, next.town);
                    town = next.town;
                }
            }
            return trip + travel.between(town, home);
        }

        private Hearing memberAt(int i, int set) {
            int place = byBegin[i];
            return (set >> place & 1) == 1 ? get(place) : null;
        }
    }

    /** Seeks the best plan of the day that its sheet has gathered. */
    private static final class Planner {
        private final DaySheet sheet;
        private final Teams[] teams;
        private final boolean[] holding;
        private final int[] trip;
        private final int[] pick;
        private final int[] best;
        private boolean keeps;
        boolean done;
        int size;
        int without;
        int changes;
        int trips;

        Planner(DaySheet sheet) {
            this.sheet = sheet;
            teams = new Teams[DAY_HEARINGS];
            for (int i = 0; i < DAY_HEARINGS; i++) {
                teams[i] = new Teams();
            }
            holding = new boolean[SETS];
            trip = new int[PERSONS * SETS];
            pick = new int[DAY_HEARINGS];
            best = new int[DAY_HEARINGS];
        }

        void prepare(People people, Papers papers, Travel travel) {
            size = Math.min(sheet.size, DAY_HEARINGS);
            for (int i = 0; i < size; i++) {
                Hearing one = sheet.get(i);
                if (one != null) {
                    teams[i].find(one, people, papers);
                }
            }
            for (int set = 0; set < 1 << size; set++) {
                holding[set] = sheet.holds(set, travel);
                for (int p = 0; p < PERSONS; p++) {
                    trip[p * SETS + set] = sheet.tripOf(people.homeOf(p), set, travel);
                }
            }
        }

        void layOut(boolean keep) {
            keeps = keep;
            done = true;
            // More hearings without than there are: the first plan weighed is better.
            without = size + 1;
            changes = 0;
            trips = 0;
            search(this, 0, 0, 0, 0);
            for (int i = 0; i < size; i++) {
                Hearing one = sheet.get(i);
                if (one != null) {
                    one.firstSeat = teams[i].firstOf(best[i]);
                    one.secondSeat = teams[i].secondOf(best[i]);
                }
            }
        }

        /** Tries the teams of the hearing at a place, then none; sets has each person's set, four bits each. */
        private static void search(Planner plan, int at, int sets, int left, int changed) {
            if (plan.isPastBest(left, changed)) {
                return;
            }
            if (at >= plan.size || at >= DAY_HEARINGS) {
                plan.weigh(sets, left, changed);
                return;
            }
            int none = plan.teams[at].size;
            for (int i = 0; i <= none; i++) {
                plan.pick[at] = i;
                int more = plan.setsOf(at, i);
                search(plan, at + 1, sets | more, i == none ? left + 1 : left, changed + plan.changesAt(at, i));
            }
        }

        private boolean isPastBest(int left, int changed) {
            return left > without || keeps && left == without && changed > changes;
        }

        private int setsOf(int at, int i) {
            return setBit(teams[at].firstOf(i), at) | setBit(teams[at].secondOf(i), at);
        }

        private static int setBit(int person, int at) {
            return person == NONE ? 0 : 1 << person * DAY_HEARINGS + at;
        }

        private int changesAt(int at, int i) {
            Hearing one = sheet.get(at);
            return one == null ? 0 : one.changesTo(teams[at].firstOf(i), teams[at].secondOf(i));
        }

        // Only whole plans are tested: a hearing between two others can make a chain hold that would not without it.
        private void weigh(int sets, int left, int changed) {
            int sum = 0;
            for (int p = 0; p < PERSONS; p++) {
                int set = sets >> p * DAY_HEARINGS & SETS - 1;
                if (!holding[set]) {
                    return;
                }
                sum += trip[p * SETS + set];
            }
            if (isBetter(left, changed, sum)) {
                without = left;
                changes = changed;
                trips = sum;
                System.arraycopy(pick, 0, best, 0, DAY_HEARINGS);
            }
        }

        // Equals are no better: plans come in their order, and the first one stays.
        private boolean isBetter(int left, int changed, int sum) {
            if (left != without) {
                return left < without;
            }
            if (keeps && changed != changes) {
                return changed < changes;
            }
            return sum < trips;
        }
    }

    /** The clauses of a text of fees; a rate's key is 10 and its grade, another's its kind. */
    private static final class FeeText {
        private final int[] day;
        private final int[] key;
        private final int[] number;
        private final int[] share;
        int size;

        FeeText() {
            day = new int[CLAUSES];
            key = new int[CLAUSES];
            number = new int[CLAUSES];
            share = new int[CLAUSES];
        }

        void add(int fromDay, int ofKey, int toldNumber, int toldShare) {
            if (size < CLAUSES) {
                day[size] = fromDay;
                key[size] = ofKey;
                number[size] = toldNumber;
                share[size] = toldShare;
                size++;
            }
        }

        int told(int onDay, int what) {
            int sought = what == TELLS_LATE_SHARE ? LATE : what;
            int holds = NONE;
            for (int i = 0; i < size && i < CLAUSES; i++) {
                if (key[i] == sought && day[i] <= onDay && (holds == NONE || day[i] >= day[holds])) {
                    holds = i;
                }
            }
            if (holds == NONE) {
                return sought == PAIR || sought == RELAY ? WHOLE : 0;
            }
            return what == TELLS_LATE_SHARE ? share[holds] : number[holds];
        }

        /** What one who sits in a hearing earns by it, without journeys. */
        long earnedIn(Hearing hearing) {
            int on = hearing.day;
            long minutes = Math.max(hearing.length, told(on, LEAST));
            long coins = minutes * told(on, TELLS_RATE + hearing.grade) / 60;
            if (hearing.secondSeat != NONE) {
                coins = coins * told(on, hearing.isLong() ? PAIR : RELAY) / WHOLE;
            }
            if (!hearing.cancelled) {
                return coins;
            }
            return hearing.ahead < told(on, LATE) ? coins * told(on, TELLS_LATE_SHARE) / WHOLE : 0;
        }
    }

    /** The bytes that were fed, and the reading of them as a text of fees. */
    private static final class Tape {
        private final byte[] bytes;
        private int at;
        private int fault;
        int size;

        Tape() {
            bytes = new byte[TAPE_BYTES];
        }

        boolean hasRoomFor(int more) {
            return size + more <= TAPE_BYTES;
        }

        void append(int number) {
            for (int shift = 24; shift >= 0 && size < TAPE_BYTES; shift -= 8) {
                bytes[size] = (byte) (number >> shift);
                size++;
            }
        }

        int readInto(FeeText text) {
            text.size = 0;
            at = 0;
            fault = 0;
            skipBlanks();
            boolean goesOn = at < size;
            for (int i = 0; goesOn && i <= TAPE_BYTES; i++) {
                readClause(text);
                goesOn = fault == 0 && readSemicolon();
            }
            return fault;
        }

        // Reading goes on behind a fault; blame() keeps the first one, which is the one of the least place.
        private void readClause(FeeText text) {
            readFrom();
            int day = readNumber(0, DAYS - 1);
            int kind = readKind();
            int grade = kind == RATE ? readNumber(1, MOST_GRADE) : 0;
            int number = readNumber(lowest(kind), highest(kind));
            int share = kind == LATE ? readNumber(0, MOST_LATE_SHARE) : 0;
            if (fault == 0) {
                text.add(day, kind == RATE ? TELLS_RATE + grade : kind, number, share);
            }
        }

        private boolean readSemicolon() {
            skipBlanks();
            if (at >= size) {
                return false;
            }
            if (byteAt(at) != ';') {
                blame(WRONG_PLACE, at);
                return false;
            }
            at++;
            return true;
        }

        private void readFrom() {
            int start = passLetters();
            if (!isWord("from", start)) {
                blame(WRONG_PLACE, start);
            }
        }

        private int readKind() {
            int start = passLetters();
            for (int kind = 0; kind < KINDS; kind++) {
                if (isWord(wordOf(kind), start)) {
                    return kind;
                }
            }
            blame(WRONG_PLACE, start);
            return NONE;
        }

        private int readNumber(int least, int most) {
            skipBlanks();
            int start = at;
            int number = 0;
            for (; at < size && isDigit(byteAt(at)); at++) {
                if (at - start < NUMBER_DIGITS) {
                    number = number * 10 + byteAt(at) - '0';
                }
            }
            if (at == start) {
                blame(WRONG_PLACE, start);
            } else if (at - start > NUMBER_DIGITS || !within(number, least, most)) {
                blame(WRONG_NUMBER, start);
            }
            return number;
        }

        private void skipBlanks() {
            while (at < size && byteAt(at) == ' ') {
                at++;
            }
        }

        /** Goes behind the next word, and answers where it starts. */
        private int passLetters() {
            skipBlanks();
            int start = at;
            while (at < size && isLetter(byteAt(at))) {
                at++;
            }
            return start;
        }

        /** Whether a word stands from a place to where the reading is. */
        private boolean isWord(String word, int start) {
            if (at - start != word.length()) {
                return false;
            }
            for (int i = 0; i < word.length(); i++) {
                if (byteAt(start + i) != word.charAt(i)) {
                    return false;
                }
            }
            return true;
        }

        private int byteAt(int place) {
            return place >= 0 && place < size && place < TAPE_BYTES ? bytes[place] & 255 : NONE;
        }

        private void blame(int what, int place) {
            if (fault == 0) {
                fault = what + 4 * place;
            }
        }

        private static boolean isDigit(int b) {
            return within(b, '0', '9');
        }

        private static boolean isLetter(int b) {
            return within(b, 'a', 'z');
        }

        private static String wordOf(int kind) {
            switch (kind) {
                case LEAST:
                    return "least";
                case WAY:
                    return "way";
                case PAIR:
                    return "pair";
                case RELAY:
                    return "relay";
                case LATE:
                    return "late";
                default:
                    return "rate";
            }
        }

        private static int lowest(int kind) {
            return kind == PAIR || kind == RELAY ? 50 : 0;
        }

        private static int highest(int kind) {
            switch (kind) {
                case LEAST:
                    return 480;
                case WAY:
                    return 100;
                case PAIR:
                case RELAY:
                    return 300;
                case LATE:
                    return 5000;
                default:
                    return 1000;
            }
        }
    }

    /** Who was asked for what, and the answers. */
    private static final class Inquiries {
        final int[] hearing;
        final int[] person;
        final int[] askDay;
        final int[] said;
        final int[] reason;
        private final int[] answerDay;
        int size;

        Inquiries() {
            hearing = new int[ASKED];
            person = new int[ASKED];
            askDay = new int[ASKED];
            said = new int[ASKED];
            reason = new int[ASKED];
            answerDay = new int[ASKED];
        }

        int add(int forHearing, int who, int day) {
            if (size >= ASKED || size > 0 && day < askDay[size - 1]) {
                return NONE;
            }
            hearing[size] = forHearing;
            person[size] = who;
            askDay[size] = day;
            answerDay[size] = NONE;
            size++;
            return size - 1;
        }

        boolean close(int asked, int day, boolean yes, int why) {
            if (!isAskedBy(asked, day) || answerDay[asked] != NONE) {
                return false;
            }
            answerDay[asked] = day;
            said[asked] = yes ? 1 : 0;
            reason[asked] = why;
            return true;
        }

        boolean isAskedBy(int asked, int day) {
            return asked >= 0 && asked < size && asked < ASKED && askDay[asked] <= day;
        }

        boolean isAnsweredBy(int asked, int day) {
            return isAskedBy(asked, day) && answerDay[asked] != NONE && answerDay[asked] <= day;
        }

        int refusedBy(int forHearing, int day) {
            int refused = 0;
            for (int i = 0; i < size && i < ASKED; i++) {
                boolean isFor = forHearing == NONE || hearing[i] == forHearing;
                if (isFor && isAnsweredBy(i, day) && said[i] == 0) {
                    refused++;
                }
            }
            return refused;
        }
    }
}
