import java.util.ArrayList;
import java.util.List;
import java.util.Map;
import java.util.regex.Matcher;
import java.util.regex.Pattern;

/** The model's reading of a text of fees: tokens by a pattern, then what may stand at each of them. */
final class ModelText {
    interface Clauses {
        void add(int day, String kind, List<Integer> numbers);
    }

    private static final Pattern TOKEN = Pattern.compile("[a-z]+|[0-9]+|[^ ]");
    private static final Map<String, int[][]> KINDS = Map.of(
            "rate", new int[][] {{1, 5}, {0, 1000}}, "least", new int[][] {{0, 480}}, "way", new int[][] {{0, 100}},
            "pair", new int[][] {{50, 300}}, "relay", new int[][] {{50, 300}}, "late", new int[][] {{0, 5000}, {0, 100}});

    private final List<String> tokens = new ArrayList<>();
    private final List<Integer> places = new ArrayList<>();
    private int next = 0;
    private int fault = 0;

    private ModelText(String text) {
        Matcher m = TOKEN.matcher(text);
        while (m.find()) {
            tokens.add(m.group());
            places.add(m.start());
        }
        tokens.add("");
        places.add(text.length());
    }

    static int read(String text, Clauses into) {
        ModelText t = new ModelText(text);
        if (t.tokens.size() == 1) {
            return 0;
        }
        do {
            t.clause(into);
        } while (t.fault == 0 && t.passes(";"));
        if (t.fault == 0 && !t.passes("")) {
            t.fault = 1 + 4 * t.places.get(t.next);
        }
        return t.fault;
    }

    private boolean passes(String token) {
        boolean is = tokens.get(next).equals(token);
        next += is ? 1 : 0;
        return is;
    }

    private void clause(Clauses into) {
        if (!passes("from")) {
            fault = 1 + 4 * places.get(next);
            return;
        }
        int day = number(new int[] {0, 999});
        if (fault != 0) {
            return;
        }
        String kind = tokens.get(next);
        if (!KINDS.containsKey(kind)) {
            fault = 1 + 4 * places.get(next);
            return;
        }
        next++;
        List<Integer> numbers = new ArrayList<>();
        for (int[] limits : KINDS.get(kind)) {
            numbers.add(number(limits));
            if (fault != 0) {
                return;
            }
        }
        into.add(day, kind, numbers);
    }

    private int number(int[] limits) {
        String token = tokens.get(next);
        int place = places.get(next);
        if (!token.matches("[0-9]+")) {
            fault = 1 + 4 * place;
            return 0;
        }
        int n = token.length() > 5 ? -1 : Integer.parseInt(token);
        if (n < limits[0] || n > limits[1]) {
            fault = 2 + 4 * place;
        }
        next++;
        return n;
    }
}
