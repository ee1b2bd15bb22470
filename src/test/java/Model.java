import java.math.BigInteger;
import java.util.ArrayList;
import java.util.Arrays;
import java.util.HashMap;
import java.util.List;
import java.util.Map;
import java.util.regex.Matcher;
import java.util.regex.Pattern;

/**
 * The document told a second time, in another way than the class tells it: chains are all written out and sorted,
 * bunkering tries every purchase, texts are read by a regular expression into functions, each hour stands in a list.
 */
final class Model {
    static final int NONE = -1, BAD = -2, STATE = -3, FULL = -4;
    static final long NO = -(1L << 62);

    private record Way(int a, int b) { }

    private record Offer(int from, int to, int tons, int rate, int open, int close) { }

    private record Reached(int why, int begin, int end, int burned, long earned) { }

    private record Chain(List<Integer> offers, long earned, int hours) { }

    private record Plan(int cost, List<Integer> buys) { }

    private static final class Ship {
        int port, hour, hold, bunkers, base, speed = 10;
        final List<Integer> log = new ArrayList<>();
    }

    private record Hour(int sort, int hour, int since, int over) { }

    private interface Expression {
        int of(Hour h);
    }

    private record Text(Expression lay, Expression off) { }

    private static final class Fault extends Exception {
        private static final long serialVersionUID = 1;
        final int place;

        Fault(int place) {
            this.place = place;
        }
    }

    private static final class Charter {
        int kind, ship, from, to, text, amount, rate, free;
        Boolean lifted;

        boolean has(int hour) {
            return lifted != Boolean.FALSE && hour >= from && hour <= to;
        }
    }

    private static final class Sheet {
        int sort;
        final List<Integer> items = new ArrayList<>();
    }

    private final List<int[]> ports = new ArrayList<>();
    private final Map<Way, Integer> ways = new HashMap<>();
    private final List<Ship> ships = new ArrayList<>();
    private final List<Offer> offers = new ArrayList<>();
    private final List<Integer> gone = new ArrayList<>();
    private final List<Integer> route = new ArrayList<>();
    private final List<Text> texts = new ArrayList<>();
    private final List<Charter> charters = new ArrayList<>();
    private final Sheet[] sheets = new Sheet[4];
    private StringBuilder tape = new StringBuilder();

    Model() {
        texts.add(new Text(h -> h.sort == 1 || h.sort == 2 ? 1 : 0, h -> h.sort == 4 ? 1 : 0));
    }

    private static boolean in(long v, long least, long most) {
        return least <= v && v <= most;
    }

    private static boolean has(List<?> list, int i) {
        return in(i, 0, list.size() - 1);
    }

    int port(int gang, int price) {
        if (!in(gang, 10, 999) || !in(price, 0, 99)) return BAD;
        if (ports.size() == 8) return FULL;
        ports.add(new int[] {gang, price});
        return ports.size() - 1;
    }

    int way(int a, int b, int miles) {
        if (!has(ports, a) || !has(ports, b) || a == b || !in(miles, 1, 9999)) return BAD;
        Integer was = ways.put(new Way(Math.min(a, b), Math.max(a, b)), miles);
        return was == null ? 0 : was;
    }

    int price(int port, int v) {
        if (!has(ports, port) || !in(v, 0, 99)) return BAD;
        int was = ports.get(port)[1];
        ports.get(port)[1] = v;
        return was;
    }

    int ship(int port, int hold, int bunkers, int base) {
        if (!has(ports, port) || !in(hold, 100, 9999) || !in(bunkers, 10, 999) || !in(base, 1, 50)) return BAD;
        if (ships.size() == 5) return FULL;
        Ship s = new Ship();
        s.port = port;
        s.hold = hold;
        s.bunkers = bunkers;
        s.base = base;
        ships.add(s);
        return ships.size() - 1;
    }

    int speed(int ship, int s) {
        if (!has(ships, ship) || !in(s, 6, 14)) return BAD;
        int was = ships.get(ship).speed;
        ships.get(ship).speed = s;
        return was;
    }

    int free(int ship, int port, int hour) {
        if (!has(ships, ship) || !has(ports, port) || !in(hour, 0, 9999)) return BAD;
        ships.get(ship).port = port;
        ships.get(ship).hour = hour;
        return 1;
    }

    int shipTold(int ship, int what) {
        if (!has(ships, ship) || !in(what, 0, 6)) return BAD;
        Ship s = ships.get(ship);
        return new int[] {s.port, s.hour, s.hold, s.bunkers, s.base, s.speed, s.log.size()}[what];
    }

    int offer(int from, int to, int tons, int rate, int open, int close) {
        if (!has(ports, from) || !has(ports, to) || from == to || !in(tons, 1, 9999) || !in(rate, 0, 9999)) return BAD;
        if (!in(open, 0, 9999) || !in(close, 0, 9999) || open > close) return BAD;
        if (offers.size() == 10) return FULL;
        offers.add(new Offer(from, to, tons, rate, open, close));
        return offers.size() - 1;
    }

    private static int up(int a, int b) {
        return (int) Math.ceil((double) a / b);
    }

    /** null: no way. */
    private Integer miles(int a, int b) {
        return a == b ? Integer.valueOf(0) : ways.get(new Way(Math.min(a, b), Math.max(a, b)));
    }

    private static int burns(Ship s, int miles) {
        int cube = s.speed * s.speed * s.speed;
        return up(up(miles, s.speed) * (s.base + (cube - cube % 100) / 100), 24);
    }

    private Reached reach(Ship s, int p, int h, int number) {
        Offer o = offers.get(number);
        Integer one = miles(p, o.from);
        Integer two = miles(o.from, o.to);
        if (o.tons > s.hold) return new Reached(1, 0, 0, 0, 0);
        if (one == null || two == null) return new Reached(2, 0, 0, 0, 0);
        int begin = h + up(one, s.speed);
        if (begin < o.open) begin = o.open;
        int end = begin + up(o.tons, ports.get(o.from)[0]) + up(two, s.speed) + up(o.tons, ports.get(o.to)[0]);
        int burnOne = burns(s, one);
        int burnTwo = burns(s, two);
        int priceOne = ports.get(p)[1];
        int priceTwo = ports.get(o.from)[1];
        boolean[] why = {begin > o.close, Math.max(burnOne, burnTwo) > s.bunkers,
            burnOne != 0 && priceOne == 0 || burnTwo != 0 && priceTwo == 0, end > 9999, gone.contains(number)};
        for (int i = 0; i < why.length; i++) {
            if (why[i]) return new Reached(3 + i, 0, 0, 0, 0);
        }
        return new Reached(0, begin, end, burnOne + burnTwo, (long) o.rate * o.tons - burnOne * priceOne - burnTwo * priceTwo);
    }

    int why(int ship, int offer) {
        if (!has(ships, ship) || !has(offers, offer)) return BAD;
        Ship s = ships.get(ship);
        return reach(s, s.port, s.hour, offer).why;
    }

    long estimate(int ship, int offer, int what) {
        if (!has(ships, ship) || !has(offers, offer) || !in(what, 0, 3)) return NO;
        Ship s = ships.get(ship);
        Reached r = reach(s, s.port, s.hour, offer);
        return r.why != 0 ? NO : new long[] {r.begin, r.end, r.burned, r.earned}[what];
    }

    private void allChains(Ship s, List<Integer> sofar, int depth, List<Chain> all) {
        int p = s.port;
        int h = s.hour;
        long earned = 0;
        for (int number : sofar) {
            Reached r = reach(s, p, h, number);
            if (r.why != 0) return;
            earned += r.earned;
            p = offers.get(number).to;
            h = r.end;
        }
        if (!sofar.isEmpty()) all.add(new Chain(sofar, earned, h - s.hour));
        if (sofar.size() == depth) return;
        for (int k = 0; k < offers.size(); k++) {
            if (sofar.contains(k)) continue;
            List<Integer> longer = new ArrayList<>(sofar);
            longer.add(k);
            allChains(s, longer, depth, all);
        }
    }

    private static int better(Chain a, Chain b) {
        BigInteger one = BigInteger.valueOf(a.earned).multiply(BigInteger.valueOf(b.hours));
        BigInteger two = BigInteger.valueOf(b.earned).multiply(BigInteger.valueOf(a.hours));
        if (!one.equals(two)) return two.compareTo(one);
        if (a.offers.size() != b.offers.size()) return a.offers.size() - b.offers.size();
        for (int i = 0; i < a.offers.size(); i++) {
            int less = a.offers.get(i) - b.offers.get(i);
            if (less != 0) return less;
        }
        return 0;
    }

    private Chain bestOf(int ship, int depth) {
        List<Chain> all = new ArrayList<>();
        allChains(ships.get(ship), List.of(), depth, all);
        all.sort(Model::better);
        return all.isEmpty() ? null : all.get(0);
    }

    long best(int ship, int depth, int what) {
        if (!has(ships, ship) || !in(depth, 1, 3) || !in(what, 0, 2)) return NO;
        Chain c = bestOf(ship, depth);
        return c == null ? NO : new long[] {c.earned, c.hours, c.offers.size()}[what];
    }

    int chain(int ship, int depth, int i) {
        if (!has(ships, ship) || !in(depth, 1, 3)) return BAD;
        Chain c = bestOf(ship, depth);
        return c == null || !has(c.offers, i) ? NONE : c.offers.get(i);
    }

    int fix(int ship, int offer) {
        if (!has(ships, ship) || !has(offers, offer)) return BAD;
        Ship s = ships.get(ship);
        Reached r = reach(s, s.port, s.hour, offer);
        if (r.why != 0) return -20 - r.why;
        s.port = offers.get(offer).to;
        s.hour = r.end;
        gone.add(offer);
        return 1;
    }

    int go(int port) {
        if (!has(ports, port) || !route.isEmpty() && route.get(route.size() - 1) == port) return BAD;
        if (route.size() == 6) return FULL;
        route.add(port);
        return route.size();
    }

    int clear() {
        int had = route.size();
        route.clear();
        return had;
    }

    /** The cheapest of all ways to buy from the i-th port on with so much coal left; null: none. */
    private Plan plan(Ship s, int i, int coal, Map<Integer, Plan> known) {
        if (i == route.size() - 1) return new Plan(0, List.of());
        int key = i * 1000 + coal;
        if (known.containsKey(key)) return known.get(key);
        Plan best = null;
        int price = ports.get(route.get(i))[1];
        int burn = burns(s, miles(route.get(i), route.get(i + 1)));
        for (int buy = 0; coal + buy <= s.bunkers; buy++) {
            if (buy > 0 && price == 0) break;
            if (coal + buy < burn) continue;
            Plan rest = plan(s, i + 1, coal + buy - burn, known);
            if (rest == null || best != null && best.cost <= rest.cost + buy * price) continue;
            List<Integer> buys = new ArrayList<>(List.of(buy));
            buys.addAll(rest.buys);
            best = new Plan(rest.cost + buy * price, buys);
        }
        known.put(key, best);
        return best;
    }

    private Plan plan(int ship) {
        if (route.size() < 2) return null;
        for (int i = 0; i + 1 < route.size(); i++) {
            if (miles(route.get(i), route.get(i + 1)) == null) return null;
        }
        return plan(ships.get(ship), 0, 0, new HashMap<>());
    }

    int bunker(int ship) {
        if (!has(ships, ship)) return BAD;
        Plan p = plan(ship);
        return p == null ? NONE : p.cost;
    }

    int bought(int ship, int i) {
        if (!has(ships, ship)) return BAD;
        Plan p = plan(ship);
        return p == null || !has(p.buys, i) ? NONE : p.buys.get(i);
    }

    int log(int ship, int sort, int n) {
        if (!has(ships, ship) || !in(sort, 0, 5) || !in(n, 1, 500)) return BAD;
        List<Integer> log = ships.get(ship).log;
        if (log.size() + n > 2000) return FULL;
        for (int i = 0; i < n; i++) log.add(sort);
        return log.size();
    }

    int lay(int ship, int sheet, int sort, int i, int n) {
        if (!has(ships, ship) || !in(sheet, 0, 3) || !in(sort, 0, 2) || n < 0) return BAD;
        Sheet s = sheets[sheet];
        if (s != null && s.sort != sort) return -13;
        if (s == null) return -11;
        List<Integer> log = ships.get(ship).log;
        for (long k = i; k < (long) i + n; k++) {
            if (!in(k, 0, s.items.size() - 1)) return -12;
            int v = s.items.get((int) k);
            if (!in(v, 0, 5)) return BAD;
            if (log.size() == 2000) return FULL;
            log.add(v);
        }
        return log.size();
    }

    int right(int ship, int hour, int sort) {
        if (!has(ships, ship) || !in(hour, 0, 9999) || !in(sort, 0, 5)) return BAD;
        List<Integer> log = ships.get(ship).log;
        return has(log, hour) ? log.set(hour, sort) : STATE;
    }

    int sort(int ship, int hour) {
        if (!has(ships, ship)) return BAD;
        List<Integer> log = ships.get(ship).log;
        return has(log, hour) ? log.get(hour) : NONE;
    }

    int feed(int n, long bytes) {
        if (!in(n, 1, 8)) return BAD;
        if (tape.length() + n > 160) return FULL;
        for (int i = 0; i < n; i++) {
            tape.append((char) (bytes & 255));
            bytes >>>= 8;
        }
        return tape.length();
    }

    private record Token(String word, int place) { }

    /** Reads one text; what it can't read is thrown. */
    private static final class Parse {
        private static final Pattern TOKEN = Pattern.compile("[ \n]+|([a-z]+|[0-9]+|[();+\\-*<=]|[\\x00-\\xff])");
        private final List<Token> tokens = new ArrayList<>();
        private int i = 0;
        private int open = 0;

        Parse(String text) {
            Matcher m = TOKEN.matcher(text);
            while (m.find()) {
                if (m.group(1) != null) tokens.add(new Token(m.group(1), m.start()));
            }
            tokens.add(new Token("", text.length()));
        }

        private String next() {
            return tokens.get(i).word;
        }

        private Fault fault() {
            return new Fault(tokens.get(i).place);
        }

        private void expect(String word) throws Fault {
            if (!next().equals(word)) throw fault();
            i++;
        }

        Text text() throws Fault {
            expect("lay");
            Expression lay = or();
            expect(";");
            expect("off");
            Expression off = or();
            expect(";");
            expect("");
            return new Text(lay, off);
        }

        private Expression or() throws Fault {
            Expression left = and();
            while (next().equals("or")) {
                i++;
                Expression a = left, b = and();
                left = h -> a.of(h) != 0 | b.of(h) != 0 ? 1 : 0;
            }
            return left;
        }

        private Expression and() throws Fault {
            Expression left = not();
            while (next().equals("and")) {
                i++;
                Expression a = left, b = not();
                left = h -> a.of(h) != 0 & b.of(h) != 0 ? 1 : 0;
            }
            return left;
        }

        private void enter() throws Fault {
            if (open == 5) throw fault();
            open++;
            i++;
        }

        private Expression not() throws Fault {
            if (next().equals("not")) {
                enter();
                Expression a = not();
                open--;
                return h -> a.of(h) == 0 ? 1 : 0;
            }
            Expression a = sum();
            if (next().equals("<")) {
                i++;
                Expression b = sum();
                return h -> a.of(h) < b.of(h) ? 1 : 0;
            }
            if (next().equals("=")) {
                i++;
                Expression b = sum();
                return h -> a.of(h) == b.of(h) ? 1 : 0;
            }
            return a;
        }

        private Expression sum() throws Fault {
            Expression left = term();
            while (next().equals("+") || next().equals("-")) {
                int sign = next().equals("+") ? 1 : -1;
                i++;
                Expression a = left, b = term();
                left = h -> a.of(h) + sign * b.of(h);
            }
            return left;
        }

        private Expression term() throws Fault {
            Expression left = one();
            while (next().equals("*")) {
                i++;
                Expression a = left, b = one();
                left = h -> a.of(h) * b.of(h);
            }
            return left;
        }

        private Expression one() throws Fault {
            String word = next();
            if (word.matches("[0-9]{1,4}")) {
                i++;
                int v = Integer.parseInt(word);
                return h -> v;
            }
            switch (word) {
                case "sort": i++; return Hour::sort;
                case "weekday": i++; return h -> h.hour / 24 % 7;
                case "clock": i++; return h -> h.hour % 24;
                case "hour": i++; return Hour::since;
                case "over": i++; return Hour::over;
                case "-": {
                    enter();
                    Expression a = one();
                    open--;
                    return h -> -a.of(h);
                }
                case "(": {
                    enter();
                    Expression a = or();
                    expect(")");
                    open--;
                    return a;
                }
                default: throw fault();
            }
        }
    }

    int text() {
        if (texts.size() == 6) return FULL;
        String all = tape.toString();
        tape = new StringBuilder();
        try {
            texts.add(new Parse(all).text());
            return texts.size() - 1;
        } catch (Fault f) {
            return -100 - f.place;
        }
    }

    int charter(int kind, int ship, int from, int to, int text, long amounts) {
        if (!in(kind, 0, 5) || !has(ships, ship) || !in(from, 0, 9999) || !in(to, 0, 9999) || from > to) return BAD;
        if (!has(texts, text) || !in(amounts, 0, 99999999999L)) return BAD;
        for (int h = from; h <= to; h++) {
            if (account(ship, h) != NONE) return STATE;
        }
        if (charters.size() == 12) return FULL;
        Charter c = new Charter();
        c.kind = kind;
        c.ship = ship;
        c.from = from;
        c.to = to;
        c.text = text;
        c.amount = (int) (amounts / 1000000);
        c.rate = (int) (amounts % 1000000) / 1000;
        c.free = (int) (amounts % 1000000) % 1000;
        charters.add(c);
        return charters.size() - 1;
    }

    int lift(int charter, boolean is) {
        if (!has(charters, charter) || charters.get(charter).kind != 5) return BAD;
        if (charters.get(charter).lifted != null) return STATE;
        charters.get(charter).lifted = is;
        return 1;
    }

    /** How each hour of a charter that the log has counts. */
    private List<Integer> hours(Charter c) {
        List<Integer> how = new ArrayList<>();
        Text t = texts.get(c.text);
        List<Integer> log = ships.get(c.ship).log;
        int over = 0;
        for (int h = c.from; c.has(h) && h < log.size(); h++) {
            Hour now = new Hour(log.get(h), h, h - c.from, over);
            how.add(t.lay.of(now) != 0 ? 0 : t.off.of(now) != 0 ? 1 : 2);
            if (t.lay.of(now) != 0) over++;
        }
        return how;
    }

    private static int many(List<Integer> how, int which) {
        return (int) how.stream().filter(k -> k == which).count();
    }

    int charterTold(int charter, int what) {
        if (!has(charters, charter) || !in(what, 0, 8)) return BAD;
        Charter c = charters.get(charter);
        List<Integer> how = hours(c);
        int state = c.lifted == null ? 0 : c.lifted ? 1 : 2;
        return new int[] {c.kind, c.ship, c.from, c.to, c.text, many(how, 0), many(how, 1), many(how, 2), state}[what];
    }

    long pays(int charter) {
        if (!has(charters, charter)) return NO;
        Charter c = charters.get(charter);
        List<Integer> how = hours(c);
        int lay = many(how, 0);
        long voyage = c.amount + (long) Math.max(lay - c.free, 0) * c.rate - (long) Math.max(c.free - lay, 0) * (c.rate / 2);
        long time = (long) c.rate * (how.size() - many(how, 1));
        long subject = c.lifted == Boolean.TRUE ? voyage : 0;
        return new long[] {voyage, time, time + c.amount, voyage + voyage, 0, subject}[c.kind];
    }

    int counts(int charter, int hour) {
        if (!has(charters, charter)) return BAD;
        List<Integer> how = hours(charters.get(charter));
        long i = (long) hour - charters.get(charter).from;
        return in(i, 0, how.size() - 1) ? how.get((int) i) : NONE;
    }

    int account(int ship, int hour) {
        if (!has(ships, ship) || !in(hour, 0, 9999)) return BAD;
        for (int i = 0; i < charters.size(); i++) {
            if (charters.get(i).ship == ship && charters.get(i).has(hour)) return i;
        }
        return NONE;
    }

    int owners(int ship) {
        if (!has(ships, ship)) return BAD;
        int n = 0;
        for (int h = 0; h < ships.get(ship).log.size(); h++) {
            if (account(ship, h) == NONE) n++;
        }
        return n;
    }

    int count(int what) {
        int[] all = {ports.size(), ships.size(), offers.size(), texts.size(), charters.size(), tape.length(), route.size()};
        return in(what, 0, all.length - 1) ? all[what] : BAD;
    }

    int sheet(int sheet, int sort, int n) {
        if (!in(sheet, 0, 3) || !in(sort, -1, 2)) return BAD;
        if (sort == -1) {
            sheets[sheet] = null;
            return 1;
        }
        if (n > 40) return BAD;
        if (n < 0) return -14;
        sheets[sheet] = new Sheet();
        sheets[sheet].sort = sort;
        sheets[sheet].items.addAll(Arrays.asList(new Integer[n]));
        sheets[sheet].items.replaceAll(x -> 0);
        return 1;
    }

    int cell(int sheet, int i, int v) {
        if (!in(sheet, 0, 3)) return BAD;
        Sheet s = sheets[sheet];
        if (s == null) return -11;
        if (!has(s.items, i)) return -12;
        int bits = new int[] {8, 16, 32}[s.sort];
        s.items.set(i, v << 32 - bits >> 32 - bits);
        return 1;
    }

    int taken(int charter, int k) {
        if (!in(k, 0, 5)) return BAD;
        if (!has(charters, charter)) return -11;
        int kind = charters.get(charter).kind;
        List<List<Integer>> above = List.of(List.of(0), List.of(1, 0), List.of(2, 1, 0), List.of(3, 0), List.of(4, 0), List.of(5, 0));
        return above.get(kind).contains(k) ? charters.get(charter).ship : -13;
    }
}
