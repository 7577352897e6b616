import java.util.ArrayList;
import java.util.Comparator;
import java.util.HashMap;
import java.util.HashSet;
import java.util.List;
import java.util.Map;
import java.util.Set;
import java.util.TreeSet;

/** The document written a second time, as plainly as the Java library allows and without a thought for speed. */
final class Model {
    private static final int NONE = -1;

    private record Team(int first, int second, int tongue) {
        Set<Integer> members() {
            Set<Integer> all = new TreeSet<>();
            all.add(first);
            all.add(second);
            all.remove(NONE);
            return all;
        }
    }

    private static final Team NOBODY = new Team(NONE, NONE, NONE);

    private static final class Case {
        int number, which, day, begin, length, town, tongue, grade, ahead;
        boolean cancelled;
        Team seats = NOBODY;
    }

    private record Clause(int day, String kind, List<Integer> numbers) {
    }

    private record Score(int without, int changes, int journeys) {
    }

    private final Map<Set<Integer>, Integer> ways = new HashMap<>();
    private final Map<Integer, Integer> dialects = new HashMap<>();
    private final List<Integer> homes = new ArrayList<>();
    private final List<int[]> papers = new ArrayList<>();
    private final Set<List<Integer>> barred = new HashSet<>();
    private final List<Case> hearings = new ArrayList<>();
    private final List<int[]> asked = new ArrayList<>();
    private final StringBuilder tape = new StringBuilder();
    private List<Clause> clauses = new ArrayList<>();
    private int rest = 30;
    private int[] planned = null;

    private static boolean in(int n, int least, int most) {
        return least <= n && n <= most;
    }

    private static boolean isDay(int n) {
        return in(n, 0, 999);
    }

    private boolean isPerson(int n) {
        return in(n, 0, homes.size() - 1);
    }

    private boolean isHearing(int n) {
        return in(n, 0, hearings.size() - 1);
    }

    private int between(int a, int b) {
        return a == b ? 0 : ways.getOrDefault(Set.of(a, b), 60);
    }

    int way(int a, int b, int minutes) {
        if (!in(a, 0, 5) || !in(b, 0, 5) || a == b || !in(minutes, 0, 300)) {
            return NONE;
        }
        int was = between(a, b);
        ways.put(Set.of(a, b), minutes);
        return was;
    }

    boolean dialect(int tongue, int of) {
        if (!in(tongue, 2, 9) || !in(of, 0, tongue - 1)) {
            return false;
        }
        dialects.remove(tongue);
        if (of != 0) {
            dialects.put(tongue, of);
        }
        return true;
    }

    int person(int town) {
        if (homes.size() == 5 || !in(town, 0, 5)) {
            return NONE;
        }
        homes.add(town);
        return homes.size() - 1;
    }

    int paper(int person, int tongue, int grade, int first, int last) {
        if (papers.size() == 40 || !isPerson(person) || !in(tongue, 0, 9) || !in(grade, 1, 5) || !isDay(first)
                || !isDay(last) || first > last) {
            return NONE;
        }
        papers.add(new int[] {person, tongue, grade, first, last});
        return papers.size() - 1;
    }

    boolean withdraw(int paper, int last) {
        if (!in(paper, 0, papers.size() - 1) || !isDay(last)) {
            return false;
        }
        if (papers.get(paper)[4] > last) {
            papers.get(paper)[4] = last;
        }
        return true;
    }

    int grade(int person, int tongue, int day) {
        if (!isPerson(person) || !in(tongue, 0, 9) || !isDay(day)) {
            return NONE;
        }
        int best = 0;
        for (int[] paper : papers) {
            int less = 0;
            Integer t = tongue;
            while (t != null && t != paper[1]) {
                t = dialects.get(t);
                less++;
            }
            if (t != null && paper[0] == person && in(day, paper[3], paper[4])) {
                best = Math.max(best, paper[2] - less);
            }
        }
        return best;
    }

    boolean bar(int person, int which, boolean is) {
        if (!isPerson(person) || !in(which, 0, 19)) {
            return false;
        }
        return is ? barred.add(List.of(person, which)) : barred.remove(List.of(person, which));
    }

    int rest(int minutes) {
        int was = rest;
        if (!in(minutes, 0, 120)) {
            return NONE;
        }
        rest = minutes;
        return was;
    }

    private List<Case> live(int day) {
        return hearings.stream().filter(h -> h.day == day && !h.cancelled).toList();
    }

    private static boolean isTime(int day, int begin, int length) {
        return isDay(day) && in(begin, 0, 1439) && in(length, 10, 240) && begin + length <= 1440;
    }

    int hearing(int which, int day, int begin, int length, int town, int tongue, int grade) {
        if (hearings.size() == 24 || live(day).size() == 4 || !in(which, 0, 19) || !isTime(day, begin, length)
                || !in(town, 0, 5) || !in(tongue, 1, 9) || !in(grade, 1, 5)) {
            return NONE;
        }
        Case h = new Case();
        h.number = hearings.size();
        h.which = which;
        h.day = day;
        h.begin = begin;
        h.length = length;
        h.town = town;
        h.tongue = tongue;
        h.grade = grade;
        hearings.add(h);
        return h.number;
    }

    boolean move(int hearing, int day, int begin) {
        if (!isHearing(hearing)) {
            return false;
        }
        Case h = hearings.get(hearing);
        long others = live(day).stream().filter(o -> o != h).count();
        if (h.cancelled || others == 4 || !isTime(day, begin, h.length)) {
            return false;
        }
        h.day = day;
        h.begin = begin;
        return true;
    }

    boolean cancel(int hearing, int ahead) {
        if (!isHearing(hearing) || hearings.get(hearing).cancelled || !in(ahead, 0, 100000)) {
            return false;
        }
        hearings.get(hearing).cancelled = true;
        hearings.get(hearing).ahead = ahead;
        return true;
    }

    private boolean can(int p, Case h, int... tongues) {
        boolean can = !barred.contains(List.of(p, h.which));
        for (int tongue : tongues) {
            can &= grade(p, tongue, h.day) >= h.grade;
        }
        return can;
    }

    private List<Team> teamsOf(Case h) {
        List<Team> all = new ArrayList<>();
        int n = homes.size();
        for (int x = 0; x < n; x++) {
            if (h.length <= 90 && can(x, h, 0, h.tongue)) {
                all.add(new Team(x, NONE, NONE));
            }
            for (int y = x + 1; h.length > 90 && y < n; y++) {
                if (can(x, h, 0, h.tongue) && can(y, h, 0, h.tongue)) {
                    all.add(new Team(x, y, NONE));
                }
            }
        }
        for (int x = 0; x < n && h.length <= 90 && all.stream().noneMatch(t -> t.tongue == NONE); x++) {
            for (int y = 0; y < n; y++) {
                for (int m = 1; m <= 9; m++) {
                    if (x != y && m != h.tongue && can(x, h, 0, m) && can(y, h, m, h.tongue)) {
                        all.add(new Team(x, y, m));
                        break;
                    }
                }
            }
        }
        return all;
    }

    int teams(int hearing) {
        return isHearing(hearing) ? teamsOf(hearings.get(hearing)).size() : NONE;
    }

    int team(int hearing, int i, int what) {
        if (!isHearing(hearing)) {
            return NONE;
        }
        List<Team> all = teamsOf(hearings.get(hearing));
        if (!in(i, 0, all.size() - 1)) {
            return NONE;
        }
        Team t = all.get(i);
        return what == 0 ? t.first : what == 1 ? t.second : what == 2 ? t.tongue : NONE;
    }

    private int travel(int person, List<Case> sitting) {
        List<Case> sorted = new ArrayList<>(sitting);
        sorted.sort(Comparator.<Case>comparingInt(h -> h.begin).thenComparingInt(h -> h.number));
        int at = homes.get(person);
        int sum = 0;
        for (Case h : sorted) {
            sum += between(at, h.town);
            at = h.town;
        }
        return sum + between(at, homes.get(person));
    }

    private boolean holds(List<Case> sitting) {
        List<Case> sorted = new ArrayList<>(sitting);
        sorted.sort(Comparator.<Case>comparingInt(h -> h.begin).thenComparingInt(h -> h.number));
        for (int i = 1; i < sorted.size(); i++) {
            Case a = sorted.get(i - 1);
            Case b = sorted.get(i);
            int end = a.begin + a.length;
            if (b.begin < end + rest || b.begin < end + between(a.town, b.town)) {
                return false;
            }
        }
        return true;
    }

    private Score score(List<Case> day, List<Team> teams) {
        int without = 0;
        int changes = 0;
        int journeys = 0;
        for (int p = 0; p < homes.size(); p++) {
            List<Case> sitting = new ArrayList<>();
            for (int i = 0; i < day.size(); i++) {
                if (teams.get(i).members().contains(p)) {
                    sitting.add(day.get(i));
                } else if (day.get(i).seats.members().contains(p)) {
                    changes++;
                }
            }
            if (!holds(sitting)) {
                return null;
            }
            journeys += travel(p, sitting);
        }
        for (Team t : teams) {
            without += t == NOBODY ? 1 : 0;
        }
        return new Score(without, changes, journeys);
    }

    int plan(int day, boolean keep) {
        if (!isDay(day)) {
            return NONE;
        }
        List<Case> todo = live(day);
        List<List<Team>> all = new ArrayList<>();
        all.add(new ArrayList<>());
        for (Case h : todo) {
            List<Team> choices = teamsOf(h);
            choices.add(NOBODY);
            List<List<Team>> longer = new ArrayList<>();
            for (List<Team> start : all) {
                for (Team t : choices) {
                    List<Team> more = new ArrayList<>(start);
                    more.add(t);
                    longer.add(more);
                }
            }
            all = longer;
        }
        Comparator<Score> order = Comparator.comparingInt(Score::without);
        if (keep) {
            order = order.thenComparingInt(Score::changes);
        }
        order = order.thenComparingInt(Score::journeys);
        List<Team> best = null;
        Score bestScore = null;
        for (List<Team> teams : all) {
            Score s = score(todo, teams);
            if (s != null && (bestScore == null || order.compare(s, bestScore) < 0)) {
                best = teams;
                bestScore = s;
            }
        }
        for (int i = 0; i < todo.size(); i++) {
            todo.get(i).seats = best.get(i);
        }
        planned = new int[] {todo.size(), bestScore.without, bestScore.changes, bestScore.journeys};
        return bestScore.without;
    }

    int planned(int what) {
        return planned == null || !in(what, 0, 3) ? NONE : planned[what];
    }

    int seat(int hearing, int which) {
        if (!isHearing(hearing)) {
            return NONE;
        }
        Team t = hearings.get(hearing).seats;
        return which == 0 ? t.first : which == 1 ? t.second : NONE;
    }

    int turn(int hearing, int m) {
        if (!isHearing(hearing) || !in(m, 0, hearings.get(hearing).length - 1)) {
            return NONE;
        }
        Case h = hearings.get(hearing);
        int who = 0;
        for (int from = 30; h.length > 90 && from <= m; from += 30) {
            who = 1 - who;
        }
        return who == 0 ? h.seats.first : h.seats.second;
    }

    int journeys(int person, int day) {
        if (!isPerson(person) || !isDay(day)) {
            return NONE;
        }
        return travel(person, live(day).stream().filter(h -> h.seats.members().contains(person)).toList());
    }

    int feed(int... numbers) {
        if (tape.length() + 20 > 600) {
            return NONE;
        }
        for (int n : numbers) {
            tape.append((char) (n >>> 24)).append((char) (n >>> 16 & 255));
            tape.append((char) (n >>> 8 & 255)).append((char) (n & 255));
        }
        return tape.length();
    }

    int end(int n) {
        if (!in(n, 0, tape.length())) {
            return NONE;
        }
        tape.setLength(n);
        return n;
    }

    int fees() {
        String text = tape.toString();
        tape.setLength(0);
        List<Clause> read = new ArrayList<>();
        int fault = ModelText.read(text, (day, kind, numbers) -> read.add(new Clause(day, kind, numbers)));
        if (fault == 0) {
            clauses = read;
        }
        return fault;
    }

    private int told(int day, String kind, int grade, int which, int without) {
        Clause holds = null;
        for (int from = day; from >= 0 && holds == null; from--) {
            for (Clause c : clauses) {
                boolean isGrade = !kind.equals("rate") || c.numbers.get(0) == grade;
                if (c.day == from && c.kind.equals(kind) && isGrade) {
                    holds = c;
                }
            }
        }
        return holds == null ? without : holds.numbers.get(which);
    }

    int tells(int day, int what) {
        if (!isDay(day)) {
            return NONE;
        }
        switch (what) {
            case 0: return told(day, "least", 0, 0, 0);
            case 1: return told(day, "way", 0, 0, 0);
            case 2: return told(day, "pair", 0, 0, 100);
            case 3: return told(day, "relay", 0, 0, 100);
            case 4: return told(day, "late", 0, 0, 0);
            case 5: return told(day, "late", 0, 1, 0);
            default: return in(what, 11, 15) ? told(day, "rate", what - 10, 1, 0) : NONE;
        }
    }

    long fee(int person, int day) {
        if (!isPerson(person) || !isDay(day)) {
            return NONE;
        }
        long sum = 0;
        boolean goes = false;
        for (Case h : hearings) {
            if (h.day != day || !h.seats.members().contains(person)) {
                continue;
            }
            long one = Math.max(h.length, tells(day, 0)) * (long) tells(day, 10 + h.grade) / 60;
            if (h.length > 90) {
                one = one * tells(day, 2) / 100;
            } else if (h.seats.tongue != NONE) {
                one = one * tells(day, 3) / 100;
            }
            if (h.cancelled) {
                one = h.ahead < tells(day, 4) ? one * tells(day, 5) / 100 : 0;
            }
            goes |= !h.cancelled;
            sum += one;
        }
        return goes ? sum + journeys(person, day) / 10 * tells(day, 1) : sum;
    }

    int ask(int hearing, int person, int day) {
        if (asked.size() == 60 || !isHearing(hearing) || !isPerson(person) || !isDay(day)
                || asked.stream().anyMatch(a -> a[2] > day)) {
            return NONE;
        }
        asked.add(new int[] {hearing, person, day, NONE, NONE, NONE});
        return asked.size() - 1;
    }

    boolean answer(int n, int day, boolean yes, int why) {
        if (!in(n, 0, asked.size() - 1) || asked.get(n)[5] != NONE || !in(day, asked.get(n)[2], 999) || !in(why, 0, 9)) {
            return false;
        }
        asked.get(n)[3] = yes ? 1 : 0;
        asked.get(n)[4] = why;
        asked.get(n)[5] = day;
        return true;
    }

    int known(int n, int day, int what) {
        if (!in(n, 0, asked.size() - 1) || !isDay(day) || asked.get(n)[2] > day || !in(what, 0, 4)) {
            return NONE;
        }
        return what >= 3 && asked.get(n)[5] > day ? NONE : asked.get(n)[what];
    }

    int refusals(int hearing, int day) {
        if (hearing != NONE && !isHearing(hearing) || !isDay(day)) {
            return NONE;
        }
        int no = 0;
        for (int n = 0; n < asked.size(); n++) {
            boolean isFor = hearing == NONE || known(n, day, 0) == hearing;
            no += isFor && known(n, day, 3) == 0 ? 1 : 0;
        }
        return no;
    }

    int count(int what) {
        int cancelled = (int) hearings.stream().filter(h -> h.cancelled).count();
        int[] all = {homes.size(), papers.size(), hearings.size(), cancelled, asked.size(), tape.length(), clauses.size(), rest};
        return in(what, 0, 7) ? all[what] : NONE;
    }
}
