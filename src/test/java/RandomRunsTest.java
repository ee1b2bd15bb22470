import java.util.ArrayList;
import java.util.Arrays;
import java.util.HashMap;
import java.util.List;
import java.util.Map;
import java.util.Random;

/** Runs of calls, made by a random source with fixed seeds, that the class and the model must answer alike. */
public final class RandomRunsTest {
    private static final int RUNS = 490;
    private static final int CALLS = 512;
    private static final String[] WORDS = {"sort", "weekday", "clock", "hour", "over", "lay", "off", "or", "and", "not",
        "(", ")", ";", "+", "-", "*", "<", "=", " ", "\n", "12345", "0", "weekdays", "x", "A", "\u0080", ">", "\t", "`", "{", "/", ":"};
    private static final String[] NAMES = {"sort", "weekday", "clock", "hour", "over"};

    private final Due due = new Due("RandomRunsTest");
    private final Map<String, Map<String, Integer>> kinds = new HashMap<>();
    private Random random;
    private Calls office;
    private Calls model;
    private List<String> told;
    private boolean broken;

    /** What a run is about: the share of calls that go to each part of the face. */
    private enum Theme { OFFERS, CHAINS, TIES, ROUTES, LOGS, TEXTS, ALL }

    private Theme theme;

    private long call(String name, Object... args) {
        String call = name + Arrays.toString(args);
        told.add(call);
        long want = model.call(name, args);
        long got = answer(name, args);
        if (want != got && !broken) {
            broken = true;
            List<String> last = told.subList(Math.max(0, told.size() - 60), told.size());
            System.out.println("the last calls of the run: " + String.join("; ", last));
        }
        due.is(want, got, call);
        String kind = name.equals("why") ? "w" + want : want >= 0 ? "0.." : want == TrampOffice.NO ? "NO" : want <= -100 ? "-100.." : Long.toString(want);
        kinds.computeIfAbsent(name, k -> new HashMap<>()).merge(kind, 1, Integer::sum);
        return want;
    }

    /** What the class answers, or a number that is no answer if the machine throws in it. */
    private long answer(String name, Object... args) {
        try {
            return office.call(name, args);
        } catch (IllegalStateException e) {
            System.out.println(e.getMessage());
            return Long.MIN_VALUE;
        }
    }

    private boolean chance(int percent) {
        return random.nextInt(100) < percent;
    }

    private int wrong() {
        int[] some = {-1, -2, Integer.MIN_VALUE, Integer.MAX_VALUE, -5, 13, 40, 41, 1000, 10000, 10001, random.nextInt()};
        return some[random.nextInt(some.length)];
    }

    /** A number from least to most, often an edge, at times one outside. */
    private int number(int least, int most) {
        int r = random.nextInt(100);
        if (r < 1) return wrong();
        if (r < 2) return least - 1;
        if (r < 3) return most + 1;
        if (r < 8) return least;
        if (r < 13) return most;
        return least + random.nextInt(most - least + 1);
    }

    private int one(int what) {
        int many = model.size(what);
        return chance(2) || many == 0 ? wrong() : chance(2) ? many : random.nextInt(many);
    }

    private int hour() {
        if (chance(3)) return number(0, 9999);
        int[] most = {30, 100, 400, 2100, 9999};
        return random.nextInt(most[random.nextInt(most.length)]);
    }

    private int onLog(int ship) {
        int size = (int) model.call("shipTold", ship, 6);
        return size <= 0 || chance(10) ? hour() : chance(10) ? size : chance(10) ? size - 1 : random.nextInt(size);
    }

    private int miles() {
        int[] most = {99, 600, 2000, 9999};
        return number(1, most[random.nextInt(most.length)]);
    }

    private void port() {
        if (theme == Theme.TIES) {
            call("port", 100, 1);
            return;
        }
        call("port", chance(50) ? number(10, 999) : 10 * number(1, 20), chance(20) ? 0 : chance(50) ? number(0, 99) : number(1, 5));
    }

    private void ship() {
        int bunkers = theme == Theme.ROUTES && chance(80) ? number(10, 80) : chance(50) ? number(10, 999) : number(300, 999);
        call("ship", one(0), chance(50) ? number(100, 9999) : number(2000, 9999), bunkers, chance(50) ? number(1, 50) : number(1, 10));
    }

    private void offer() {
        if (theme == Theme.TIES) {
            call("offer", one(0), one(0), 100 * number(1, 2), 10 * number(1, 2), 0, chance(90) ? 9999 : hour());
            return;
        }
        int open = hour();
        int close = chance(5) ? hour() : Math.min(9999, open + (chance(50) ? random.nextInt(3000) : random.nextInt(200)));
        int tons = chance(30) ? 100 * number(1, 10) : number(1, 9999);
        int rate = chance(30) ? number(0, 3) : chance(50) ? number(0, 100) : number(0, 9999);
        call("offer", one(0), one(0), tons, rate, chance(50) ? 0 : open, close);
    }

    private void offers() {
        int ship = one(1);
        switch (random.nextInt(12)) {
            case 0: case 1: call("why", ship, one(2)); break;
            case 2: call("estimate", ship, one(2), number(0, 3)); break;
            case 3: case 4: call("best", ship, number(1, 3), number(0, 2)); break;
            case 5: case 6: call("chain", ship, number(1, 3), number(0, 2)); break;
            case 7: if (chance(theme == Theme.OFFERS ? 50 : 5)) call("fix", ship, one(2)); break;
            case 8: call("free", ship, one(0), chance(theme == Theme.OFFERS ? 30 : 70) ? 0 : chance(10) ? 9700 + random.nextInt(300) : hour()); break;
            case 9: call("speed", ship, number(6, 14)); break;
            case 10: call("shipTold", ship, number(0, 6)); break;
            default: call("price", one(0), theme == Theme.TIES ? 1 : chance(20) ? 0 : number(0, 99)); break;
        }
    }

    private void ways() {
        for (int a = 0; a < 8; a++) {
            for (int b = a + 1; b < 8; b++) {
                if (a < model.size(0) && b < model.size(0) && chance(85)) call("way", a, b, theme == Theme.ROUTES ? number(1, 200) : theme == Theme.TIES ? 100 : miles());
            }
        }
    }

    private void routes() {
        switch (random.nextInt(10)) {
            case 0: case 1: if (model.size(6) < 4 || chance(20)) call("go", one(0)); break;
            case 3: if (chance(10)) call("clear"); break;
            case 4: call("bunker", random.nextInt(2)); break;
            case 5: case 6: call("bought", one(1), number(0, 5)); break;
            case 7: call("speed", one(1), number(6, 14)); break;
            case 2: case 8: call("price", one(0), chance(15) ? 0 : chance(60) ? number(1, 3) : number(0, 99)); break;
            default: if (chance(30)) call("way", one(0), one(0), number(1, chance(80) ? 200 : 900)); break;
        }
    }

    private void logs() {
        int ship = one(1);
        switch (random.nextInt(8)) {
            case 0: call("log", ship, number(0, 5), chance(60) ? number(1, 20) : number(1, 500)); break;
            case 1: case 2: call("lay", ship, number(0, 3), number(0, 2), number(0, 41), number(0, 5)); break;
            case 3: call("right", ship, onLog(ship), number(0, 5)); break;
            case 4: call("sort", ship, onLog(ship)); break;
            case 5: call("sheet", number(0, 3), number(-1, 2), number(0, 40)); break;
            default: call("cell", number(0, 3), number(0, 39), chance(80) ? random.nextInt(6) : chance(50) ? 65536 + random.nextInt(6) : chance(50) ? 256 + random.nextInt(6) : random.nextInt()); break;
        }
    }

    private String e(int depth) {
        int r = random.nextInt(depth <= 0 ? 4 : 14);
        String between = chance(80) ? " " : chance(50) ? "\n" : "  ";
        switch (r) {
            case 0: case 1: return NAMES[random.nextInt(5)];
            case 2: return Integer.toString(random.nextInt(chance(70) ? 8 : chance(90) ? 10000 : 100000));
            case 3: return NAMES[random.nextInt(5)] + "=" + random.nextInt(6);
            case 4: return e(depth - 1) + between + "or" + between + e(depth - 1);
            case 5: return e(depth - 1) + between + "and" + between + e(depth - 1);
            case 6: return "not " + e(depth - 1);
            case 7: return e(depth - 1) + "<" + e(depth - 1);
            case 8: return e(depth - 1) + "=" + e(depth - 1);
            case 9: return e(depth - 1) + "+" + e(depth - 1);
            case 10: return e(depth - 1) + "-" + e(depth - 1);
            case 11: return e(depth - 1) + "*" + e(depth - 1);
            case 12: return "-" + e(depth - 1);
            default: return "(" + e(depth - 1) + ")";
        }
    }

    private String madeText() {
        if (chance(15)) {
            StringBuilder nest = new StringBuilder("lay ");
            int deep = 3 + random.nextInt(4);
            for (int i = 0; i < deep; i++) nest.append(new String[] {"(", "-", "not ", "(not ", "(-"}[random.nextInt(5)]);
            nest.append(e(1));
            for (int i = 0; i < deep; i++) if (chance(60)) nest.append(")");
            return nest.append(" ; off 0 ;").toString();
        }
        StringBuilder all = new StringBuilder("lay " + e(3) + (chance(50) ? " ; " : ";") + "off " + e(2) + ";");
        int faults = chance(60) ? 0 : 1 + random.nextInt(2);
        for (int i = 0; i < faults; i++) {
            int at = random.nextInt(all.length());
            String word = WORDS[random.nextInt(WORDS.length)];
            if (chance(50)) {
                all.insert(at, word);
            } else if (chance(50)) {
                all.deleteCharAt(at);
            } else {
                all.setLength(at);
            }
            if (all.length() == 0) return "";
        }
        return all.toString();
    }

    private void feedText() {
        String all = madeText();
        for (int i = 0; i < all.length() && i < 168; i += 8) {
            int n = Math.min(8, all.length() - i);
            long bytes = chance(20) && n < 8 ? random.nextLong() << 8 * n : 0;
            for (int k = 0; k < n; k++) {
                bytes |= (long) (all.charAt(i + k) & 255) << 8 * k;
            }
            call("feed", n, bytes);
        }
        if (chance(5)) call("feed", number(1, 8), random.nextLong());
        call("count", 5);
        call("text");
    }

    private void charter() {
        int from = hour();
        int to = chance(5) ? hour() : Math.min(9999, from + random.nextInt(chance(50) ? 20 : 400));
        long amounts = chance(5) ? random.nextLong() : 1000000L * number(0, 99999) + 1000L * number(0, 999) + random.nextInt(chance(70) ? 20 : 1000);
        call("charter", chance(30) ? 5 : number(0, 5), one(1), from, to, one(3), amounts);
    }

    private void charters() {
        int charter = one(4);
        switch (random.nextInt(12)) {
            case 0: case 1: charter(); break;
            case 2: if (chance(50)) call("lift", charter, chance(50)); break;
            case 3: case 4: call("charterTold", charter, number(0, 8)); break;
            case 5: case 6: call("pays", charter); break;
            case 7: case 8: call("counts", charter, Math.max((int) model.call("charterTold", charter, 2), 0) + number(0, 20)); break;
            case 9: call("account", one(1), hour()); break;
            case 10: call("owners", one(1)); break;
            default: call("taken", charter, number(0, 5)); break;
        }
    }

    private void step() {
        int r = random.nextInt(100);
        if (r < 2) {
            call("count", number(0, 6));
        } else if (r < 3) {
            port();
        } else if (r < 4) {
            ship();
        } else if (theme == Theme.OFFERS || theme == Theme.CHAINS || theme == Theme.TIES) {
            if (chance(5)) offer(); else offers();
        } else if (theme == Theme.ROUTES) {
            routes();
        } else if (theme == Theme.LOGS) {
            if (chance(60)) logs(); else charters();
        } else if (theme == Theme.TEXTS) {
            if (chance(15)) feedText(); else if (chance(20)) logs(); else charters();
        } else {
            switch (random.nextInt(6)) {
                case 0: offer(); break;
                case 1: offers(); break;
                case 2: routes(); break;
                case 3: logs(); break;
                case 4: if (chance(20)) feedText(); break;
                default: charters(); break;
            }
        }
    }

    private void run(int seed) {
        random = new Random(seed);
        theme = Theme.values()[seed % Theme.values().length];
        office = Calls.ofClass();
        model = Calls.ofModel();
        told = new ArrayList<>();
        int ports = 2 + random.nextInt(7);
        for (int i = 0; i < ports; i++) port();
        ways();
        for (int i = 0; i < 2; i++) ship();
        if (theme == Theme.CHAINS || theme == Theme.TIES || theme == Theme.OFFERS) {
            for (int i = 0; i < 12; i++) offer();
        }
        if (theme == Theme.TEXTS || theme == Theme.LOGS) {
            for (int i = 0; i < 8; i++) call("log", one(1), number(0, 5), number(1, 60));
        }
        while (told.size() < CALLS && !broken) step();
    }

    public static void main(String[] args) {
        RandomRunsTest test = new RandomRunsTest();
        for (int seed = 0; seed < RUNS && !test.broken; seed++) test.run(seed);
        if (args.length > 0) System.out.println(test.kinds);
        test.due.end();
    }
}
