import java.util.ArrayList;
import java.util.Arrays;
import java.util.EnumMap;
import java.util.LinkedHashMap;
import java.util.List;
import java.util.Map;

/**
 * Terms: "Refusals .. they change nothing". Each call with each two of its numbers at their edges, in each of the three
 * states: the answer is the model's; what is refused, and what only tells, leaves the object as a twin that was not
 * called; what is done leaves it as the model is then.
 */
public final class RefusalsTest {
    private static final int MIN = Integer.MIN_VALUE, MAX = Integer.MAX_VALUE;
    /** An object answers 512 calls: a state takes up to 150, a print up to 310. */
    private static final int CALLS_ON_ONE = 40;
    private static final List<String> TELLING = List.of("shipTold", "why", "estimate", "best", "chain", "bunker", "bought",
        "sort", "charterTold", "pays", "counts", "account", "owners", "count", "taken");
    private static final Due due = new Due("RefusalsTest");

    /** By the name of a call: first a row of numbers that are good in many states, then the edges of each number. */
    private static final Map<String, Object[][]> EDGES = new LinkedHashMap<>();

    private static Object[] ints(int... edges) {
        return Arrays.stream(edges).boxed().toArray();
    }

    private static void edges(String name, Object[] good, Object[]... edges) {
        Object[][] all = new Object[edges.length + 1][];
        all[0] = good;
        System.arraycopy(edges, 0, all, 1, edges.length);
        EDGES.put(name, all);
    }

    private static void tellEdges() {
        Object[] port = ints(MIN, -1, 0, 1, 3, 4, 7, 8, MAX);
        Object[] ship = ints(MIN, -1, 0, 1, 2, 4, 5, MAX);
        Object[] offer = ints(MIN, -1, 0, 1, 3, 4, 9, 10, MAX);
        Object[] charter = ints(MIN, -1, 0, 1, 5, 6, 11, 12, MAX);
        Object[] hour = ints(MIN, -1, 0, 1, 9, 10, 44, 45, 1999, 2000, 9998, 9999, 10000, MAX);
        Object[] sort = ints(MIN, -1, 0, 4, 5, 6, MAX);
        Object[] price = ints(MIN, -1, 0, 1, 98, 99, 100, MAX);
        Object[] sheet = ints(MIN, -1, 0, 1, 2, 3, 4, MAX);
        Object[] sheetSort = ints(MIN, -2, -1, 0, 1, 2, 3, MAX);
        edges("port", ints(10, 0), ints(MIN, -1, 0, 9, 10, 11, 998, 999, 1000, MAX), price);
        edges("way", ints(0, 1, 1), port, port, ints(MIN, -1, 0, 1, 2, 9998, 9999, 10000, MAX));
        edges("price", ints(0, 1), port, price);
        edges("ship", ints(0, 100, 10, 1), port, ints(MIN, -1, 0, 99, 100, 101, 9998, 9999, 10000, MAX),
            ints(MIN, -1, 0, 9, 10, 11, 998, 999, 1000, MAX), ints(MIN, -1, 0, 1, 2, 49, 50, 51, MAX));
        edges("speed", ints(0, 6), ship, ints(MIN, -1, 0, 5, 6, 7, 13, 14, 15, MAX));
        edges("free", ints(0, 0, 0), ship, port, hour);
        edges("shipTold", ints(0, 0), ship, ints(MIN, -1, 0, 1, 5, 6, 7, MAX));
        edges("offer", ints(0, 1, 1, 0, 0, 9999), port, port, ints(MIN, -1, 0, 1, 2, 9998, 9999, 10000, MAX),
            ints(MIN, -1, 0, 1, 9998, 9999, 10000, MAX), hour, hour);
        edges("why", ints(0, 1), ship, offer);
        edges("estimate", ints(0, 1, 0), ship, offer, ints(MIN, -1, 0, 1, 2, 3, 4, MAX));
        edges("best", ints(0, 1, 0), ship, ints(MIN, -1, 0, 1, 2, 3, 4, MAX), ints(MIN, -1, 0, 1, 2, 3, MAX));
        edges("chain", ints(0, 1, 0), ship, ints(MIN, -1, 0, 1, 2, 3, 4, MAX), ints(MIN, -1, 0, 1, 2, 3, 4, MAX));
        edges("fix", ints(0, 1), ship, offer);
        edges("go", ints(0), port);
        edges("clear", ints());
        edges("bunker", ints(0), ship);
        edges("bought", ints(0, 0), ship, ints(MIN, -1, 0, 1, 2, 4, 5, 6, MAX));
        edges("log", ints(0, 0, 1), ship, sort, ints(MIN, -1, 0, 1, 2, 499, 500, 501, MAX));
        edges("lay", ints(0, 0, 0, 0, 1), ship, sheet, sheetSort, ints(MIN, -1, 0, 1, 2, 39, 40, 41, MAX), ints(MIN, -1, 0, 1, 2, 3, 40, 41, MAX));
        edges("right", ints(0, 0, 0), ship, hour, sort);
        edges("sort", ints(0, 0), ship, hour);
        edges("feed", ints(1, 0), ints(MIN, -1, 0, 1, 2, 7, 8, 9, MAX), ints());
        EDGES.get("feed")[0] = new Object[] {1, 0L};
        EDGES.get("feed")[2] = new Object[] {Long.MIN_VALUE, -1L, 0L, 32L, 255L, 0x79616cL, Long.MAX_VALUE};
        edges("text", ints());
        edges("charter", ints(0, 1, 50, 60, 0, 0), ints(MIN, -1, 0, 1, 4, 5, 6, MAX), ship, hour, hour, ints(MIN, -1, 0, 1, 2, 3, 5, 6, MAX), ints());
        EDGES.get("charter")[0][5] = 0L;
        EDGES.get("charter")[6] = new Object[] {Long.MIN_VALUE, -1L, 0L, 1L, 99999999998L, 99999999999L, 100000000000L, Long.MAX_VALUE};
        edges("lift", ints(1, 1), charter, new Object[] {true, false});
        EDGES.get("lift")[0][1] = true;
        edges("charterTold", ints(0, 0), charter, ints(MIN, -1, 0, 1, 7, 8, 9, MAX));
        edges("pays", ints(0), charter);
        edges("counts", ints(0, 5), charter, hour);
        edges("account", ints(0, 0), ship, hour);
        edges("owners", ints(0), ship);
        edges("count", ints(0), ints(MIN, -1, 0, 1, 5, 6, 7, MAX));
        edges("sheet", ints(0, 0, 0), sheet, sheetSort, ints(MIN, -1, 0, 1, 39, 40, 41, MAX));
        edges("cell", ints(0, 0, 0), sheet, ints(MIN, -1, 0, 1, 2, 39, 40, MAX), ints(MIN, -129, -1, 0, 5, 6, 128, 255, 32768, MAX));
        edges("taken", ints(0, 0), charter, ints(MIN, -1, 0, 1, 4, 5, 6, MAX));
    }

    /** A row of numbers of a call, and how many of them are not its good ones. */
    private record Row(Object[] numbers, int atEdges) { }

    /** All rows of numbers of a call that are its good ones but for two that are at an edge. */
    private static List<Row> rows(String name) {
        Object[][] edges = EDGES.get(name);
        Object[] good = edges[0];
        List<Row> rows = new ArrayList<>();
        rows.add(new Row(good, 0));
        for (int a = 0; a < good.length; a++) {
            for (Object atA : edges[a + 1]) {
                rows.add(new Row(with(good, a, atA), 1));
                for (int b = a + 1; b < good.length; b++) {
                    for (Object atB : edges[b + 1]) {
                        rows.add(new Row(with(with(good, a, atA), b, atB), 2));
                    }
                }
            }
        }
        return rows;
    }

    private static Object[] with(Object[] row, int i, Object v) {
        Object[] copy = row.clone();
        copy[i] = v;
        return copy;
    }

    /** Whether the object may be another one then: a text with a fault empties the tape, a lay may come in part. */
    private static boolean changes(String name, long answer) {
        boolean inPart = name.equals("text") && answer <= -100 || name.equals("lay") && (answer == -12 || answer == -2 || answer == -4);
        return !TELLING.contains(name) && answer >= 0 || inPart;
    }

    /** One call by itself, done and told by the class and the model. */
    private static void done(States state, String name, Object[] row) {
        for (Print print : Print.values()) {
            Calls x = state.of(Calls.ofClass());
            Calls model = state.of(Calls.ofModel());
            String call = state + ": " + name + Arrays.toString(row);
            due.is(model.call(name, row), x.call(name, row), call);
            due.holds(print.of(model).equals(print.of(x)), call + ": " + print + " as the model's");
        }
    }

    /** Calls that change nothing, one behind the other on each of the objects that are told then. */
    private static void nothingChanged(States state, String name, List<Object[]> rows, Map<Print, List<Long>> untouched) {
        for (Print print : Print.values()) {
            Calls x = state.of(Calls.ofClass());
            for (Object[] row : rows) {
                x.call(name, row);
            }
            String first = name + Arrays.toString(rows.get(0));
            due.holds(untouched.get(print).equals(print.of(x)), state + ": from " + first + " on no " + name + " that is refused, or tells, changes " + print);
        }
    }

    private static void all(States state, String name, Map<Print, List<Long>> untouched) {
        List<Object[]> refused = new ArrayList<>();
        Calls x = state.of(Calls.ofClass());
        Calls model = state.of(Calls.ofModel());
        for (Row row : rows(name)) {
            long want = model.call(name, row.numbers);
            due.is(want, x.call(name, row.numbers), state + ": " + name + Arrays.toString(row.numbers));
            boolean changed = changes(name, want);
            if (!changed) {
                refused.add(row.numbers);
            } else if (row.atEdges < 2) {
                done(state, name, row.numbers);
            }
            if (refused.size() == CALLS_ON_ONE) {
                nothingChanged(state, name, refused, untouched);
                refused.clear();
                changed = true;
            }
            if (changed) {
                x = state.of(Calls.ofClass());
                model = state.of(Calls.ofModel());
            }
        }
        if (!refused.isEmpty()) nothingChanged(state, name, refused, untouched);
    }

    public static void main(String[] args) {
        tellEdges();
        for (States state : States.values()) {
            Map<Print, List<Long>> untouched = new EnumMap<>(Print.class);
            for (Print print : Print.values()) {
                untouched.put(print, print.of(state.of(Calls.ofClass())));
                due.holds(untouched.get(print).equals(print.of(state.of(Calls.ofModel()))), state + ": " + print + " as the model's");
            }
            for (String name : EDGES.keySet()) {
                all(state, name, untouched);
            }
        }
        due.is(34, EDGES.size(), "all calls of the document");
        due.end();
    }
}
