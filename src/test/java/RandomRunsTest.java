import java.util.Random;

/** Runs of 512 calls on new objects, each answer compared with the model's; the seeds are fixed. */
public final class RandomRunsTest {
    private static final int RUNS = 400;
    private static final int CALLS = 512;
    private static final int[] EDGES = {Integer.MIN_VALUE, -1000, -2, -1, 0, 1, 2, 5, 6, 9, 10, 20, 24, 40, 60, 241, 300, 301,
        999, 1000, 1439, 1440, 5000, 100000, 100001, Integer.MAX_VALUE};
    private static final String[] WORDS = {"from", "rate", "least", "way", "pair", "relay", "late", ";", " ", "x", "fro", "#",
        "0", "1", "5", "6", "50", "100", "300", "301", "999", "1000", "99999", "100000", "000000"};

    private final Random random;
    private final HearingDesk x = new HearingDesk();
    private final Model y = new Model();
    private final int days;
    private final int wildness;

    private RandomRunsTest(long seed) {
        random = new Random(seed);
        days = 1 + random.nextInt(4);
        wildness = seed % 8 == 7 ? 2 : seed % 2 == 0 ? 0 : 40;
    }

    public static void main(String[] args) {
        int runs = args.length > 0 ? Integer.parseInt(args[0]) : RUNS;
        for (int seed = 0; seed < runs && Due.wrong() == 0; seed++) {
            new RandomRunsTest(seed).run(seed);
        }
        Due.end();
    }

    private void run(int seed) {
        int people = 1 + random.nextInt(5);
        for (int i = 0; i < people; i++) {
            int town = random.nextInt(6);
            Due.is("person", x.person(town), y.person(town));
        }
        int tongues = 1 + random.nextInt(3);
        for (int i = 0; i < 30; i++) {
            int p = random.nextInt(people);
            int t = random.nextInt(1 + tongues);
            int g = 1 + random.nextInt(5);
            Due.is("paper", x.paper(p, t, g, 0, 999), y.paper(p, t, g, 0, 999));
        }
        for (int i = people + 30; i < CALLS && Due.wrong() == 0; i++) {
            call("seed " + seed + ", call " + i, random.nextInt(46), tongues);
        }
    }

    /** Mostly a number from 0 to below a bound; now and then an edge or any number. */
    private int some(int below) {
        if (wildness > 0 && random.nextInt(wildness) == 0) {
            return random.nextInt(4) == 0 ? random.nextInt() : EDGES[random.nextInt(EDGES.length)];
        }
        return random.nextInt(below);
    }

    private void call(String label, int kind, int tongues) {
        int a = some(5);
        int b = some(5);
        int day = some(days);
        boolean is = random.nextBoolean();
        if (kind < 16) {
            set(label + " of kind " + kind, kind, a, b, day, is, tongues);
        } else if (kind < 34) {
            look(label + " of kind " + kind, kind, a, b, day, is);
        } else {
            book(label + " of kind " + kind, kind, a, b, day, is);
        }
    }

    private void set(String label, int kind, int a, int b, int day, boolean is, int tongues) {
        int c = some(20);
        int hearing = some(24);
        int begin = some(12) * 60;
        int length = 10 + some(random.nextInt(3) == 0 ? 231 : 80);
        int minutes = some(121);
        switch (kind) {
            case 0: Due.is(label, x.way(a, b, minutes), y.way(a, b, minutes)); break;
            case 1: Due.is(label, x.dialect(c, b), y.dialect(c, b)); break;
            case 2: Due.is(label, x.person(c), y.person(c)); break;
            case 3: Due.is(label, x.paper(a, c, b + 1, day, day + 5), y.paper(a, c, b + 1, day, day + 5)); break;
            case 4:
                boolean rarely = random.nextInt(4) == 0;
                if (rarely) {
                    Due.is(label, x.withdraw(minutes / 3, day), y.withdraw(minutes / 3, day));
                }
                break;
            case 5: Due.is(label, x.bar(a, c % 3, is), y.bar(a, c % 3, is)); break;
            case 6: Due.is(label, x.rest(minutes), y.rest(minutes)); break;
            case 7: Due.is(label, x.move(hearing, day, begin), y.move(hearing, day, begin)); break;
            case 8: Due.is(label, x.cancel(hearing, minutes), y.cancel(hearing, minutes)); break;
            case 9: Due.is(label, x.ask(hearing, a, day), y.ask(hearing, a, day)); break;
            case 10: Due.is(label, x.answer(minutes / 2, day, is, c / 2), y.answer(minutes / 2, day, is, c / 2)); break;
            default:
                int tongue = random.nextInt(6) == 0 ? c : 1 + random.nextInt(tongues);
                int grade = 1 + random.nextInt(random.nextInt(3) == 0 ? 5 : 3);
                Due.is(label, x.hearing(c % 4, day, begin, length, b, tongue, grade),
                        y.hearing(c % 4, day, begin, length, b, tongue, grade));
                break;
        }
    }

    private void look(String label, int kind, int a, int b, int day, boolean is) {
        int hearing = some(24);
        int n = some(60);
        switch (kind) {
            case 16: Due.is(label, x.grade(a, n / 6, day), y.grade(a, n / 6, day)); break;
            case 17: Due.is(label, x.teams(hearing), y.teams(hearing)); break;
            case 18: Due.is(label, x.team(hearing, b, n / 20), y.team(hearing, b, n / 20)); break;
            case 19: Due.is(label, x.planned(b), y.planned(b)); break;
            case 20: Due.is(label, x.seat(hearing, b / 2), y.seat(hearing, b / 2)); break;
            case 21: Due.is(label, x.turn(hearing, n * 3), y.turn(hearing, n * 3)); break;
            case 22: Due.is(label, x.journeys(a, day), y.journeys(a, day)); break;
            case 23: Due.is(label, x.known(n, day, b), y.known(n, day, b)); break;
            case 24: Due.is(label, x.refusals(hearing - 1, day), y.refusals(hearing - 1, day)); break;
            case 25: Due.is(label, x.count(n / 7), y.count(n / 7)); break;
            case 26: Due.is(label, x.tells(day, n / 3), y.tells(day, n / 3)); break;
            case 27: case 28: Due.is(label, x.fee(a, day), y.fee(a, day)); break;
            default: checkPlan(label, day, is); break;
        }
    }

    private void checkPlan(String label, int day, boolean keep) {
        Due.is(label, x.plan(day, keep), y.plan(day, keep));
        for (int what = 0; what < 4; what++) {
            Due.is(label + ", planned " + what, x.planned(what), y.planned(what));
        }
        for (int h = 0; h < 24; h++) {
            Due.is(label + ", first of " + h, x.seat(h, 0), y.seat(h, 0));
            Due.is(label + ", second of " + h, x.seat(h, 1), y.seat(h, 1));
        }
    }

    private void book(String label, int kind, int a, int b, int day, boolean is) {
        if (kind < 38) {
            feedText(label, random.nextInt(3) == 0 ? wildText() : goodText());
        } else if (kind == 38) {
            int n = some(600);
            Due.is(label, x.end(n), y.end(n));
        } else if (kind == 39) {
            Due.is(label, x.feed(a, b, day, a, b), y.feed(a, b, day, a, b));
        } else if (kind < 42) {
            Due.is(label, x.fee(a, day), y.fee(a, day));
        } else {
            checkPlan(label, day, is);
        }
    }

    private void feedText(String label, String text) {
        int start = x.count(5);
        for (int i = 0; i < text.length(); i += 20) {
            int[] n = new int[5];
            for (int k = 0; k < 20 && i + k < text.length(); k++) {
                n[k / 4] |= (text.charAt(i + k) & 255) << 24 - 8 * (k % 4);
            }
            Due.is(label + " feed", x.feed(n[0], n[1], n[2], n[3], n[4]), y.feed(n[0], n[1], n[2], n[3], n[4]));
        }
        int n = start + text.length();
        Due.is(label + " end", x.end(n), y.end(n));
        Due.is(label + " fees of '" + text + "'", x.fees(), y.fees());
        Due.is(label + " clauses", x.count(6), y.count(6));
        for (int what = -1; what < 17; what++) {
            Due.is(label + " tells " + what, x.tells(what % 3 + days, what), y.tells(what % 3 + days, what));
        }
    }

    private String goodText() {
        StringBuilder text = new StringBuilder();
        int clauses = random.nextInt(8);
        for (int i = 0; i < clauses; i++) {
            text.append(i == 0 ? "" : random.nextBoolean() ? ";" : " ; ").append("from ").append(random.nextInt(days + 2));
            switch (random.nextInt(8)) {
                case 0: text.append(" least ").append(random.nextInt(481)); break;
                case 1: text.append(" way ").append(random.nextInt(101)); break;
                case 2: text.append(" pair  ").append(50 + random.nextInt(251)); break;
                case 3: text.append(" relay ").append(50 + random.nextInt(251)); break;
                case 4: text.append(" late ").append(random.nextInt(200)).append(' ').append(random.nextInt(101)); break;
                default: text.append(" rate ").append(1 + random.nextInt(5)).append(' ').append(random.nextInt(1001)); break;
            }
        }
        return text.toString();
    }

    /** A good text with one place changed, or words as they come. */
    private String wildText() {
        StringBuilder text = new StringBuilder(goodText());
        if (random.nextBoolean() && text.length() > 0) {
            int at = random.nextInt(text.length());
            if (random.nextBoolean()) {
                text.deleteCharAt(at);
            } else {
                text.insert(at, WORDS[random.nextInt(WORDS.length)]);
            }
            return text.toString();
        }
        for (int i = random.nextInt(12); i > 0; i--) {
            text.append(WORDS[random.nextInt(WORDS.length)]).append(random.nextBoolean() ? " " : "");
        }
        return text.toString();
    }
}
