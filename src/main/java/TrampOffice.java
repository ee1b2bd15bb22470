import java.util.Arrays;

/** A tramp owner's office; ../shared/DOC.md says in numbered promises what it does. */
public final class TrampOffice {
    public static final int NONE = -1, BAD = -2, STATE = -3, FULL = -4;
    public static final long NO = -4611686018427387904L;

    private static final int NOTHING = -11, OUTSIDE = -12, OTHER_SORT = -13, BELOW_ZERO = -14;

    private static final int PORTS = 8, SHIPS = 5, OFFERS = 10, TEXTS = 6, CHARTERS = 12, SHEETS = 4;
    private static final int ROUTE = 6, LOG = 2000, TAPE = 160, DEPTH = 3, CELLS = 40;
    private static final int LAST_HOUR = 9999, MOST_BUNKERS = 999, MOST_PRICE = 99, LAST_SORT = 5, LAST_SHEET_SORT = 2;
    private static final long MOST_AMOUNTS = 99999999999L;

    private static final String FIRST_TEXT = "lay sort = 1 or sort = 2 ; off sort = 4 ;";

    private final Port[] ports = new Port[PORTS];
    private final Ship[] ships = new Ship[SHIPS];
    private final Offer[] offers = new Offer[OFFERS];
    private final Text[] texts = new Text[TEXTS];
    private final Charter[] charters = new Charter[CHARTERS];
    private final Sheet[] sheets = new Sheet[SHEETS];
    private final Port[] route = new Port[ROUTE];
    private int portCount, shipCount, offerCount, textCount, charterCount, routeCount;
    private final Reach reach = new Reach();
    private final Search search = new Search();
    private final Bunkering bunkering = new Bunkering();
    private final Reader reader = new Reader();
    /** What the tape is read into: a text that has a fault is read over by the next one. */
    private Text spare = new Text(0);
    private final Tally tally = new Tally();

    public TrampOffice() {
        for (int i = 0; i < SHEETS; i++) {
            sheets[i] = new Sheet();
        }
        for (int i = 0; i < FIRST_TEXT.length(); i++) {
            reader.append(FIRST_TEXT.charAt(i));
        }
        text();
    }

    // ---- ports, ships

    public int port(int gang, int price) {
        if (!within(gang, 10, 999) || !within(price, 0, MOST_PRICE)) {
            return BAD;
        }
        if (portCount >= PORTS) {
            return FULL;
        }
        ports[portCount] = new Port(portCount, gang, price);
        portCount++;
        return portCount - 1;
    }

    public int way(int a, int b, int miles) {
        Port one = portAt(a);
        Port other = portAt(b);
        if (one == null || other == null || a == b || !within(miles, 1, 9999)) {
            return BAD;
        }
        int were = one.milesTo(other);
        one.putMiles(other, miles);
        other.putMiles(one, miles);
        return were;
    }

    public int price(int port, int v) {
        Port p = portAt(port);
        if (p == null || !within(v, 0, MOST_PRICE)) {
            return BAD;
        }
        int was = p.price;
        p.price = v;
        return was;
    }

    public int ship(int port, int hold, int bunkers, int base) {
        Port p = portAt(port);
        if (p == null || !within(hold, 100, 9999) || !within(bunkers, 10, MOST_BUNKERS) || !within(base, 1, 50)) {
            return BAD;
        }
        if (shipCount >= SHIPS) {
            return FULL;
        }
        ships[shipCount] = new Ship(shipCount, p, hold, bunkers, base);
        shipCount++;
        return shipCount - 1;
    }

    public int speed(int ship, int s) {
        Ship its = shipAt(ship);
        if (its == null || !within(s, 6, 14)) {
            return BAD;
        }
        int was = its.speed;
        its.speed = s;
        return was;
    }

    public int free(int ship, int port, int hour) {
        Ship s = shipAt(ship);
        Port p = portAt(port);
        if (s == null || p == null || !isHour(hour)) {
            return BAD;
        }
        s.at = p;
        s.hour = hour;
        return 1;
    }

    public int shipTold(int ship, int what) {
        Ship s = shipAt(ship);
        if (s == null) {
            return BAD;
        }
        switch (what) {
            case 0: return s.at.number;
            case 1: return s.hour;
            case 2: return s.hold;
            case 3: return s.bunkers;
            case 4: return s.base;
            case 5: return s.speed;
            case 6: return s.logged;
            default: return BAD;
        }
    }

    // ---- offers

    public int offer(int from, int to, int tons, int rate, int open, int close) {
        Port one = portAt(from);
        Port other = portAt(to);
        if (one == null || other == null || from == to || !within(tons, 1, 9999) || !within(rate, 0, 9999)) {
            return BAD;
        }
        if (!isHour(open) || !isHour(close) || open > close) {
            return BAD;
        }
        if (offerCount >= OFFERS) {
            return FULL;
        }
        offers[offerCount] = new Offer(one, other, tons, rate, open, close);
        offerCount++;
        return offerCount - 1;
    }

    public int why(int ship, int offer) {
        Ship s = shipAt(ship);
        Offer o = offerAt(offer);
        if (s == null || o == null) {
            return BAD;
        }
        reach.reckon(s, s.at, s.hour, o);
        return reach.why;
    }

    public long estimate(int ship, int offer, int what) {
        if (why(ship, offer) != 0) {
            return NO;
        }
        switch (what) {
            case 0: return reach.begin;
            case 1: return reach.end;
            case 2: return reach.burned;
            case 3: return reach.earned;
            default: return NO;
        }
    }

    public long best(int ship, int depth, int what) {
        Ship s = shipAt(ship);
        if (s == null || !within(depth, 1, DEPTH)) {
            return NO;
        }
        search.run(s, offers, offerCount, depth);
        if (search.size == 0) {
            return NO;
        }
        switch (what) {
            case 0: return search.earned;
            case 1: return search.hours;
            case 2: return search.size;
            default: return NO;
        }
    }

    public int chain(int ship, int depth, int i) {
        Ship s = shipAt(ship);
        if (s == null || !within(depth, 1, DEPTH)) {
            return BAD;
        }
        search.run(s, offers, offerCount, depth);
        return search.link(i);
    }

    public int fix(int ship, int offer) {
        Ship s = shipAt(ship);
        Offer o = offerAt(offer);
        if (s == null || o == null) {
            return BAD;
        }
        reach.reckon(s, s.at, s.hour, o);
        if (reach.why != 0) {
            return -20 - reach.why;
        }
        s.at = o.to;
        s.hour = reach.end;
        o.gone = true;
        return 1;
    }

    // ---- routes

    public int go(int port) {
        Port p = portAt(port);
        if (p == null || endsRoute(p)) {
            return BAD;
        }
        if (routeCount >= ROUTE) {
            return FULL;
        }
        route[routeCount] = p;
        routeCount++;
        return routeCount;
    }

    public int clear() {
        int had = routeCount;
        routeCount = 0;
        return had;
    }

    public int bunker(int ship) {
        Ship s = shipAt(ship);
        if (s == null) {
            return BAD;
        }
        return bunkering.plan(s, route, routeCount);
    }

    public int bought(int ship, int i) {
        Ship s = shipAt(ship);
        if (s == null) {
            return BAD;
        }
        if (bunkering.plan(s, route, routeCount) == NONE) {
            return NONE;
        }
        return bunkering.tonsAt(i);
    }

    // ---- logs, texts

    public int log(int ship, int sort, int n) {
        Ship s = shipAt(ship);
        if (s == null || !isSort(sort) || !within(n, 1, 500)) {
            return BAD;
        }
        if (n > LOG - s.logged) {
            return FULL;
        }
        for (int k = 0; k < n; k++) {
            s.append(sort);
        }
        return s.logged;
    }

    public int lay(int ship, int sheet, int sort, int i, int n) {
        Ship s = shipAt(ship);
        Sheet row = sheetAt(sheet);
        if (s == null || row == null || !within(sort, 0, LAST_SHEET_SORT) || n < 0) {
            return BAD;
        }
        if (row.sort == Sheet.MISSING) {
            return NOTHING;
        }
        if (row.sort != sort) {
            return OTHER_SORT;
        }
        for (int k = 0; k < n; k++) {
            int refusal = layItem(s, row, i + k);
            if (refusal != 0) {
                return refusal;
            }
        }
        return s.logged;
    }

    public int right(int ship, int hour, int sort) {
        Ship s = shipAt(ship);
        if (s == null || !isHour(hour) || !isSort(sort)) {
            return BAD;
        }
        int was = s.sortAt(hour);
        if (was == NONE) {
            return STATE;
        }
        s.correct(hour, sort);
        return was;
    }

    public int sort(int ship, int hour) {
        Ship s = shipAt(ship);
        return s == null ? BAD : s.sortAt(hour);
    }

    public int feed(int n, long bytes) {
        if (!within(n, 1, 8)) {
            return BAD;
        }
        if (n > TAPE - reader.size) {
            return FULL;
        }
        for (int k = 0; k < n; k++) {
            reader.append((int) (bytes >> 8 * k) & 255);
        }
        return reader.size;
    }

    public int text() {
        if (textCount >= TEXTS) {
            return FULL;
        }
        int fault = reader.read(spare);
        reader.emptyTape();
        if (fault != NONE) {
            return -100 - fault;
        }
        texts[textCount] = spare;
        textCount++;
        spare = new Text(textCount);
        return textCount - 1;
    }

    // ---- charters

    public int charter(int kind, int ship, int from, int to, int text, long amounts) {
        Ship s = shipAt(ship);
        Text t = textAt(text);
        if (!Charter.isKind(kind) || s == null || !isHour(from) || !isHour(to) || from > to) {
            return BAD;
        }
        if (t == null || amounts < 0 || amounts > MOST_AMOUNTS) {
            return BAD;
        }
        if (meets(s, from, to)) {
            return STATE;
        }
        if (charterCount >= CHARTERS) {
            return FULL;
        }
        charters[charterCount] = new Charter(kind, s, from, to, t, amounts);
        charterCount++;
        return charterCount - 1;
    }

    public int lift(int charter, boolean is) {
        Charter c = charterAt(charter);
        if (c == null || c.kind != Charter.SUBJECT) {
            return BAD;
        }
        if (c.state != Charter.AS_MADE) {
            return STATE;
        }
        c.state = is ? Charter.LIFTED : Charter.FELL;
        return 1;
    }

    public int charterTold(int charter, int what) {
        Charter c = charterAt(charter);
        if (c == null) {
            return BAD;
        }
        switch (what) {
            case 0: return c.kind;
            case 1: return c.ship.number;
            case 2: return c.from;
            case 3: return c.to;
            case 4: return c.text.number;
            case 5: case 6: case 7: return hoursOf(c, what - 5);
            case 8: return c.state;
            default: return BAD;
        }
    }

    public long pays(int charter) {
        Charter c = charterAt(charter);
        if (c == null) {
            return NO;
        }
        tally.run(c, c.to);
        return c.payFor(tally);
    }

    public int counts(int charter, int hour) {
        Charter c = charterAt(charter);
        if (c == null) {
            return BAD;
        }
        if (!c.has(hour) || c.ship.sortAt(hour) == NONE) {
            return NONE;
        }
        return tally.run(c, hour);
    }

    public int account(int ship, int hour) {
        Ship s = shipAt(ship);
        if (s == null || !isHour(hour)) {
            return BAD;
        }
        for (int i = 0; i < charterCount; i++) {
            Charter c = charterAt(i);
            if (c != null && c.isOf(s) && c.has(hour)) {
                return i;
            }
        }
        return NONE;
    }

    public int owners(int ship) {
        Ship s = shipAt(ship);
        if (s == null) {
            return BAD;
        }
        int left = s.logged;
        for (int i = 0; i < charterCount; i++) {
            Charter c = charterAt(i);
            if (c != null && c.isOf(s)) {
                left -= c.loggedHours();
            }
        }
        return left;
    }

    public int count(int what) {
        switch (what) {
            case 0: return portCount;
            case 1: return shipCount;
            case 2: return offerCount;
            case 3: return textCount;
            case 4: return charterCount;
            case 5: return reader.size;
            case 6: return routeCount;
            default: return BAD;
        }
    }

    // ---- the host

    public int sheet(int sheet, int sort, int n) {
        Sheet row = sheetAt(sheet);
        if (row == null || !within(sort, Sheet.MISSING, LAST_SHEET_SORT)) {
            return BAD;
        }
        if (sort == Sheet.MISSING) {
            row.become(sort, 0);
            return 1;
        }
        if (n > CELLS) {
            return BAD;
        }
        if (n < 0) {
            return BELOW_ZERO;
        }
        row.become(sort, n);
        return 1;
    }

    public int cell(int sheet, int i, int v) {
        Sheet row = sheetAt(sheet);
        if (row == null) {
            return BAD;
        }
        if (row.sort == Sheet.MISSING) {
            return NOTHING;
        }
        if (!row.has(i)) {
            return OUTSIDE;
        }
        row.write(i, v);
        return 1;
    }

    public int taken(int charter, int k) {
        if (!Charter.isKind(k)) {
            return BAD;
        }
        Charter c = charterAt(charter);
        if (c == null) {
            return NOTHING;
        }
        return c.isUnder(k) ? c.ship.number : OTHER_SORT;
    }

    // ---- what the calls share

    private static boolean within(int v, int least, int most) {
        return v >= least && v <= most;
    }

    private static boolean isHour(int hour) {
        return within(hour, 0, LAST_HOUR);
    }

    private static boolean isSort(int sort) {
        return within(sort, 0, LAST_SORT);
    }

    private static int roundedUp(int things, int by) {
        return by < 1 ? 0 : (things + by - 1) / by;
    }

    private Port portAt(int port) {
        return port >= 0 && port < portCount ? ports[port] : null;
    }

    private Ship shipAt(int ship) {
        return ship >= 0 && ship < shipCount ? ships[ship] : null;
    }

    private Offer offerAt(int offer) {
        return offer >= 0 && offer < offerCount ? offers[offer] : null;
    }

    private Text textAt(int text) {
        return text >= 0 && text < textCount ? texts[text] : null;
    }

    private Charter charterAt(int charter) {
        return charter >= 0 && charter < charterCount ? charters[charter] : null;
    }

    private Sheet sheetAt(int sheet) {
        return sheet >= 0 && sheet < SHEETS ? sheets[sheet] : null;
    }

    private boolean endsRoute(Port p) {
        if (routeCount < 1) {
            return false;
        }
        Port last = route[routeCount - 1];
        return last != null && last.number == p.number;
    }

    /** An item of a sheet comes behind the log: 0, or why it does not. */
    private static int layItem(Ship s, Sheet row, int i) {
        if (!row.has(i)) {
            return OUTSIDE;
        }
        int sort = row.item(i);
        if (!isSort(sort)) {
            return BAD;
        }
        if (s.logged >= LOG) {
            return FULL;
        }
        s.append(sort);
        return 0;
    }

    private boolean meets(Ship s, int from, int to) {
        for (int i = 0; i < charterCount; i++) {
            Charter c = charterAt(i);
            if (c != null && c.isOf(s) && c.state != Charter.FELL && c.from <= to && from <= c.to) {
                return true;
            }
        }
        return false;
    }

    private int hoursOf(Charter c, int how) {
        tally.run(c, c.to);
        switch (how) {
            case Tally.IS_LAY: return tally.lay;
            case Tally.IS_OFF: return tally.off;
            default: return tally.other;
        }
    }

    /** A port; the miles of its ways stand at the other ports' numbers, 0 where there is none. */
    private static final class Port {
        final int number;
        final int gang;
        int price;
        private final int[] miles = new int[PORTS];

        Port(int number, int gang, int price) {
            this.number = number;
            this.gang = gang;
            this.price = price;
        }

        int milesTo(Port other) {
            int to = other.number;
            return to >= 0 && to < PORTS ? miles[to] : 0;
        }

        void putMiles(Port other, int m) {
            int to = other.number;
            if (to >= 0 && to < PORTS) {
                miles[to] = m;
            }
        }

        boolean lacksWayTo(Port other) {
            return other.number != number && milesTo(other) == 0;
        }
    }

    /** A ship with its log. */
    private static final class Ship {
        final int number;
        final int hold;
        final int bunkers;
        final int base;
        Port at;
        int hour;
        int speed = 10;
        int logged;
        private final byte[] sorts = new byte[LOG];

        Ship(int number, Port at, int hold, int bunkers, int base) {
            this.number = number;
            this.at = at;
            this.hold = hold;
            this.bunkers = bunkers;
            this.base = base;
        }

        int hoursFor(int miles) {
            return roundedUp(miles, speed);
        }

        int burnFor(int miles) {
            return roundedUp(hoursFor(miles) * (base + speed * speed * speed / 100), 24);
        }

        int sortAt(int hour) {
            return hour >= 0 && hour < logged ? sorts[hour] : NONE;
        }

        void append(int sort) {
            if (logged < LOG) {
                sorts[logged] = (byte) sort;
                logged++;
            }
        }

        void correct(int hour, int sort) {
            if (hour >= 0 && hour < logged) {
                sorts[hour] = (byte) sort;
            }
        }
    }

    /** A cargo that is offered; it is gone when a ship has taken it. */
    private static final class Offer {
        final Port from;
        final Port to;
        final int tons;
        final int rate;
        final int open;
        final int close;
        boolean gone;

        Offer(Port from, Port to, int tons, int rate, int open, int close) {
            this.from = from;
            this.to = to;
            this.tons = tons;
            this.rate = rate;
            this.open = open;
            this.close = close;
        }
    }

    /** How a ship reaches an offer; all but why is only to be read where why is 0. */
    private static final class Reach {
        private static final int TOO_MUCH = 1, NO_WAY = 2, TOO_LATE = 3, TOO_FAR = 4;
        private static final int NO_COAL = 5, TOO_LONG = 6, GONE = 7;

        int why;
        int begin;
        int end;
        int burned;
        long earned;

        void reckon(Ship ship, Port at, int hour, Offer offer) {
            Port from = offer.from;
            int there = at.milesTo(from);
            int on = from.milesTo(offer.to);
            int burnThere = ship.burnFor(there);
            int burnOn = ship.burnFor(on);
            int loading = roundedUp(offer.tons, from.gang);
            int unloading = roundedUp(offer.tons, offer.to.gang);
            begin = Math.max(hour + ship.hoursFor(there), offer.open);
            end = begin + loading + ship.hoursFor(on) + unloading;
            burned = burnThere + burnOn;
            earned = (long) offer.rate * offer.tons - (long) burnThere * at.price - (long) burnOn * from.price;
            why = refusal(ship, at, offer, burnThere, burnOn);
        }

        private int refusal(Ship ship, Port at, Offer offer, int burnThere, int burnOn) {
            Port from = offer.from;
            if (offer.tons > ship.hold) {
                return TOO_MUCH;
            }
            if (at.lacksWayTo(from) || from.lacksWayTo(offer.to)) {
                return NO_WAY;
            }
            if (begin > offer.close) {
                return TOO_LATE;
            }
            if (burnThere > ship.bunkers || burnOn > ship.bunkers) {
                return TOO_FAR;
            }
            if (lacksCoal(at, burnThere) || lacksCoal(from, burnOn)) {
                return NO_COAL;
            }
            if (end > LAST_HOUR) {
                return TOO_LONG;
            }
            return offer.gone ? GONE : 0;
        }

        private static boolean lacksCoal(Port port, int burn) {
            return burn > 0 && port.price == 0;
        }
    }

    /** Looks through all chains of a ship for the one that earns most by hour; size is 0 where there is none. */
    private static final class Search {
        int size;
        long earned;
        int hours;
        private final int[] links = new int[DEPTH];
        private final int[] trial = new int[DEPTH];
        private final Reach reach = new Reach();
        private int count;
        private int depth;

        void run(Ship ship, Offer[] offers, int offerCount, int most) {
            count = Math.min(offerCount, offers.length);
            depth = Math.min(most, DEPTH);
            size = 0;
            earned = 0;
            hours = 0;
            extend(ship, offers, ship.at, ship.hour, 0, 0);
        }

        int link(int i) {
            return i >= 0 && i < size ? links[i] : NONE;
        }

        /** Tries each offer behind the first ones of the trial, which earn a sum and end at a port and an hour. */
        private void extend(Ship ship, Offer[] offers, Port at, int hour, long sum, int tried) {
            if (tried < 0 || tried >= depth) {
                return;
            }
            for (int k = 0; k < count; k++) {
                Offer offer = offers[k];
                if (offer == null || isTried(k, tried)) {
                    continue;
                }
                reach.reckon(ship, at, hour, offer);
                if (reach.why != 0) {
                    continue;
                }
                // the deeper trials reckon with the same reach
                int end = reach.end;
                long sumThen = sum + reach.earned;
                trial[tried] = k;
                keepIfBetter(tried + 1, sumThen, end - ship.hour);
                extend(ship, offers, offer.to, end, sumThen, tried + 1);
            }
        }

        private boolean isTried(int offer, int tried) {
            for (int i = 0; i < tried; i++) {
                if (trial[i] == offer) {
                    return true;
                }
            }
            return false;
        }

        /** Of like chains of one size the first that is tried stays: it has the lesser offers ahead. */
        private void keepIfBetter(int newSize, long newEarned, int newHours) {
            long gain = newEarned * hours - earned * newHours;
            if (size == 0 || gain > 0 || (gain == 0 && newSize < size)) {
                size = newSize;
                earned = newEarned;
                hours = newHours;
                System.arraycopy(trial, 0, links, 0, newSize);
            }
        }
    }

    /** Where to buy coal on a route at least cost: reckoned from the last port back, then told from the first on. */
    private static final class Bunkering {
        /** Above each cost that a route can have. */
        private static final int NEVER = 1000000;

        private int legs;
        private final int[] burns = new int[ROUTE];
        private final int[] tons = new int[ROUTE];
        /** Row i: what to buy at the i-th port, by the coal that is left there. */
        private final int[][] buys = new int[ROUTE][MOST_BUNKERS + 1];
        /** What the way from one port to the end costs, and from the next one, by the coal that is left there. */
        private final int[] costs = new int[MOST_BUNKERS + 1];
        private final int[] costsNext = new int[MOST_BUNKERS + 1];

        /** The least cost, or NONE. */
        int plan(Ship ship, Port[] route, int stops) {
            legs = Math.min(Math.min(stops, route.length), ROUTE) - 1;
            if (legs < 1) {
                return NONE;
            }
            int most = Math.min(ship.bunkers, MOST_BUNKERS);
            Arrays.fill(costs, 0);
            for (int i = legs - 1; i >= 0; i--) {
                Port from = route[i];
                Port to = route[i + 1];
                if (from == null || to == null || from.lacksWayTo(to)) {
                    return NONE;
                }
                burns[i] = ship.burnFor(from.milesTo(to));
                System.arraycopy(costs, 0, costsNext, 0, costs.length);
                if (from.price == 0) {
                    planWithout(i, most);
                } else {
                    planBuying(i, most, from.price);
                }
            }
            if (costs[0] >= NEVER) {
                return NONE;
            }
            follow();
            return costs[0];
        }

        int tonsAt(int i) {
            return i >= 0 && i < legs ? tons[i] : NONE;
        }

        private void planWithout(int i, int most) {
            for (int coal = 0; coal <= most; coal++) {
                buys[i][coal] = 0;
                costs[coal] = costBehind(i, coal);
            }
        }

        private void planBuying(int i, int most, int price) {
            int fill = 0;
            int least = NEVER;
            for (int coal = most; coal >= 0; coal--) {
                int behind = costBehind(i, coal);
                // of like costs the lesser fill wins: it buys less
                if (behind < NEVER && behind + coal * price <= least) {
                    least = behind + coal * price;
                    fill = coal;
                }
                buys[i][coal] = Math.max(fill - coal, 0);
                costs[coal] = least < NEVER ? least - coal * price : NEVER;
            }
        }

        /** What it costs from the next port on for one that leaves the i-th with so much coal. */
        private int costBehind(int i, int coal) {
            int rest = coal - burns[i];
            return rest >= 0 && rest <= MOST_BUNKERS ? costsNext[rest] : NEVER;
        }

        private void follow() {
            int coal = 0;
            for (int i = 0; i < legs; i++) {
                if (coal < 0 || coal > MOST_BUNKERS) {
                    return;
                }
                tons[i] = buys[i][coal];
                coal += tons[i] - burns[i];
            }
        }
    }

    /**
     * A text that tells what counts, as codes for a stack: a number stands as itself, all else below 0. First come the
     * codes for lay, behind them those for off.
     */
    private static final class Text {
        static final int OR = -1, AND = -2, NOT = -3, LESS = -4, SAME = -5;
        static final int PLUS = -6, MINUS = -7, TIMES = -8, NEGATE = -9;
        static final int SORT = -10, WEEKDAY = -11, CLOCK = -12, SINCE = -13, OVER = -14;

        final int number;
        int laySize;
        int size;
        private final int[] codes = new int[TAPE];

        Text(int number) {
            this.number = number;
        }

        int codeAt(int k) {
            return k >= 0 && k < size ? codes[k] : 0;
        }

        void add(int code) {
            if (size < TAPE) {
                codes[size] = code;
                size++;
            }
        }

        void empty() {
            laySize = 0;
            size = 0;
        }

        void endLay() {
            laySize = size;
        }

        static boolean isName(int code) {
            return within(code, OVER, SORT);
        }

        static boolean joinsTwo(int code) {
            return within(code, TIMES, OR);
        }
    }

    /** Splits the tape into tokens and reads them into a text, up to the first one that can't stand there. */
    private static final class Reader {
        private static final int LAY = -21, OFF = -22, OPEN = -23, CLOSE = -24, SEMICOLON = -25;
        private static final int END = -26, BROKEN = -27;
        private static final int SIGN = 0, LETTER = 1, DIGIT = 2, BLANK = 3;
        /** The levels of an E: each is made of the next one's. */
        private static final int ORS = 0, ANDS = 1, COMPARED = 2, SUMS = 3, TERMS = 4, ONES = 5;
        private static final int MOST_OPEN = 5, MOST_DIGITS = 4;

        int size;
        private final int[] tape = new int[TAPE];
        private int count;
        private final int[] tokens = new int[TAPE];
        private final int[] places = new int[TAPE];
        private int at;
        private int token;
        private int fault;

        void append(int b) {
            if (size < TAPE) {
                tape[size] = b;
                size++;
            }
        }

        void emptyTape() {
            size = 0;
        }

        /** The place of the fault, or NONE. */
        int read(Text text) {
            split();
            text.empty();
            fault = NONE;
            stepTo(0);
            readPart(LAY, text);
            text.endLay();
            readPart(OFF, text);
            if (token != END) {
                refuse();
            }
            return fault;
        }

        private void readPart(int key, Text text) {
            expect(key);
            readLevel(text, ORS, 0);
            expect(SEMICOLON);
        }

        private void readLevel(Text text, int level, int open) {
            if (level >= ONES) {
                readOne(text, open);
                return;
            }
            if (level == COMPARED && token == Text.NOT) {
                readInside(text, COMPARED, open);
                text.add(Text.NOT);
                return;
            }
            readLevel(text, level + 1, open);
            int most = level == COMPARED ? 1 : TAPE;
            for (int k = 0; k < most && levelOf(token) == level; k++) {
                int joint = token;
                stepTo(at + 1);
                readLevel(text, level + 1, open);
                text.add(joint);
            }
        }

        private void readOne(Text text, int open) {
            if (token >= 0 || Text.isName(token)) {
                text.add(token);
                stepTo(at + 1);
            } else if (token == Text.MINUS) {
                readInside(text, ONES, open);
                text.add(Text.NEGATE);
            } else if (token == OPEN) {
                readInside(text, ORS, open);
                expect(CLOSE);
            } else {
                refuse();
            }
        }

        /** Reads what belongs to a (, a not or a -, which is open meanwhile. */
        private void readInside(Text text, int level, int open) {
            if (open >= MOST_OPEN) {
                refuse();
                return;
            }
            stepTo(at + 1);
            readLevel(text, level, open + 1);
        }

        private void expect(int due) {
            if (token == due) {
                stepTo(at + 1);
            } else {
                refuse();
            }
        }

        /** The first fault stays; a broken token stands nowhere, so that the reading ends. */
        private void refuse() {
            if (fault == NONE) {
                fault = at >= 0 && at < count ? places[at] : size;
            }
            token = BROKEN;
        }

        private void stepTo(int i) {
            at = i;
            token = at >= 0 && at < count ? tokens[at] : END;
        }

        private static int levelOf(int token) {
            switch (token) {
                case Text.OR: return ORS;
                case Text.AND: return ANDS;
                case Text.LESS: case Text.SAME: return COMPARED;
                case Text.PLUS: case Text.MINUS: return SUMS;
                case Text.TIMES: return TERMS;
                default: return NONE;
            }
        }

        private void split() {
            count = 0;
            int from = 0;
            for (int k = 0; k < TAPE && from < size; k++) {
                int end = endOf(from);
                if (kindOf(byteAt(from)) != BLANK) {
                    tokens[count] = tokenOf(from, end);
                    places[count] = from;
                    count++;
                }
                from = end;
            }
        }

        /** Where a run of letters, digits or blanks ends; a sign stands alone. */
        private int endOf(int from) {
            int kind = kindOf(byteAt(from));
            int end = from + 1;
            while (end < size && kind != SIGN && kindOf(byteAt(end)) == kind) {
                end++;
            }
            return end;
        }

        private int tokenOf(int from, int end) {
            int first = byteAt(from);
            switch (kindOf(first)) {
                case LETTER: return wordToken(from, end);
                case DIGIT: return end - from > MOST_DIGITS ? BROKEN : numberToken(from, end);
                default: return signToken(first);
            }
        }

        private int numberToken(int from, int end) {
            int value = 0;
            for (int i = from; i < end; i++) {
                value = 10 * value + byteAt(i) - '0';
            }
            return value;
        }

        private int wordToken(int from, int end) {
            if (isWord("lay", from, end)) {
                return LAY;
            }
            if (isWord("off", from, end)) {
                return OFF;
            }
            if (isWord("or", from, end)) {
                return Text.OR;
            }
            if (isWord("and", from, end)) {
                return Text.AND;
            }
            if (isWord("not", from, end)) {
                return Text.NOT;
            }
            if (isWord("sort", from, end)) {
                return Text.SORT;
            }
            if (isWord("weekday", from, end)) {
                return Text.WEEKDAY;
            }
            if (isWord("clock", from, end)) {
                return Text.CLOCK;
            }
            if (isWord("hour", from, end)) {
                return Text.SINCE;
            }
            return isWord("over", from, end) ? Text.OVER : BROKEN;
        }

        private boolean isWord(String word, int from, int end) {
            if (end - from != word.length()) {
                return false;
            }
            for (int k = 0; k < word.length(); k++) {
                if (byteAt(from + k) != word.charAt(k)) {
                    return false;
                }
            }
            return true;
        }

        private static int signToken(int sign) {
            switch (sign) {
                case '(': return OPEN;
                case ')': return CLOSE;
                case ';': return SEMICOLON;
                case '+': return Text.PLUS;
                case '-': return Text.MINUS;
                case '*': return Text.TIMES;
                case '<': return Text.LESS;
                case '=': return Text.SAME;
                default: return BROKEN;
            }
        }

        private static int kindOf(int b) {
            if (within(b, 'a', 'z')) {
                return LETTER;
            }
            if (within(b, '0', '9')) {
                return DIGIT;
            }
            return b == 32 || b == 10 ? BLANK : SIGN;
        }

        private int byteAt(int i) {
            return i >= 0 && i < size ? tape[i] : NONE;
        }
    }

    /** A charter of a ship: hours of it, a text that tells which of them count, and what is paid for them. */
    private static final class Charter {
        static final int VOYAGE = 0, TIME = 1, TRIP = 2, CONSEC = 3, BALLAST = 4, SUBJECT = 5;
        static final int AS_MADE = 0, LIFTED = 1, FELL = 2;
        /** The kind that each kind is directly under. */
        private static final int[] UNDER = {NONE, VOYAGE, TIME, VOYAGE, VOYAGE, VOYAGE};

        final int kind;
        final Ship ship;
        final int from;
        final int to;
        final Text text;
        private final int amount;
        private final int rate;
        private final int free;
        int state = AS_MADE;

        Charter(int kind, Ship ship, int from, int to, Text text, long amounts) {
            this.kind = kind;
            this.ship = ship;
            this.from = from;
            this.to = to;
            this.text = text;
            amount = (int) (amounts / 1000000);
            rate = (int) (amounts / 1000 % 1000);
            free = (int) (amounts % 1000);
        }

        static boolean isKind(int kind) {
            return kind >= 0 && kind < UNDER.length;
        }

        boolean isOf(Ship s) {
            return ship.number == s.number;
        }

        boolean has(int hour) {
            return state != FELL && within(hour, from, to);
        }

        /** Whether it is of a kind, or of one under that. */
        boolean isUnder(int above) {
            int k = kind;
            for (int i = 0; i < UNDER.length && isKind(k) && k != above; i++) {
                k = UNDER[k];
            }
            return k == above;
        }

        int loggedHours() {
            if (state == FELL) {
                return 0;
            }
            return Math.max(Math.min(to, ship.logged - 1) - from + 1, 0);
        }

        long payFor(Tally hours) {
            switch (kind) {
                case TIME: return timePay(hours);
                case TRIP: return amount + timePay(hours);
                case CONSEC: return 2 * voyagePay(hours);
                case BALLAST: return 0;
                case SUBJECT: return state == LIFTED ? voyagePay(hours) : 0;
                default: return voyagePay(hours);
            }
        }

        private long voyagePay(Tally hours) {
            long beyond = hours.lay - free;
            return amount + (beyond > 0 ? beyond * rate : beyond * (rate / 2));
        }

        private long timePay(Tally hours) {
            return (long) rate * (hours.lay + hours.other);
        }
    }

    /** Counts the hours of a charter that the log has, one behind the other: lay hours tell on those behind them. */
    private static final class Tally {
        static final int IS_LAY = 0, IS_OFF = 1, IS_OTHER = 2;

        int lay;
        int off;
        int other;
        private int sort;
        private int hour;
        private int since;
        private final int[] stack = new int[TAPE];

        /** Counts up to an hour: how that one counts, NONE where none is. */
        int run(Charter charter, int last) {
            lay = 0;
            off = 0;
            other = 0;
            int how = NONE;
            int hours = Math.min(charter.loggedHours(), last - charter.from + 1);
            for (int k = 0; k < hours; k++) {
                since = k;
                hour = charter.from + k;
                sort = charter.ship.sortAt(hour);
                how = countHour(charter.text);
            }
            return how;
        }

        private int countHour(Text text) {
            if (worth(text, 0, text.laySize) != 0) {
                lay++;
                return IS_LAY;
            }
            if (worth(text, text.laySize, text.size) != 0) {
                off++;
                return IS_OFF;
            }
            other++;
            return IS_OTHER;
        }

        private int worth(Text text, int from, int end) {
            int top = 0;
            for (int k = from; k < end; k++) {
                top = step(text.codeAt(k), top);
            }
            return within(top, 1, TAPE) ? stack[top - 1] : 0;
        }

        /** Does what a code says to a stack that has top items: how many it has then. */
        private int step(int code, int top) {
            if (code == Text.NOT || code == Text.NEGATE) {
                return turn(code, top);
            }
            if (Text.joinsTwo(code)) {
                return join(code, top);
            }
            if (!within(top, 0, TAPE - 1)) {
                return top;
            }
            stack[top] = code >= 0 ? code : named(code);
            return top + 1;
        }

        private int turn(int code, int top) {
            if (within(top, 1, TAPE)) {
                int v = stack[top - 1];
                stack[top - 1] = code == Text.NEGATE ? -v : v == 0 ? 1 : 0;
            }
            return top;
        }

        private int join(int code, int top) {
            if (!within(top, 2, TAPE)) {
                return top;
            }
            stack[top - 2] = joined(code, stack[top - 2], stack[top - 1]);
            return top - 1;
        }

        private int named(int name) {
            switch (name) {
                case Text.SORT: return sort;
                case Text.WEEKDAY: return hour / 24 % 7;
                case Text.CLOCK: return hour % 24;
                case Text.SINCE: return since;
                case Text.OVER: return lay;
                default: return 0;
            }
        }

        private static int joined(int code, int a, int b) {
            switch (code) {
                case Text.OR: return a != 0 || b != 0 ? 1 : 0;
                case Text.AND: return a != 0 && b != 0 ? 1 : 0;
                case Text.LESS: return a < b ? 1 : 0;
                case Text.SAME: return a == b ? 1 : 0;
                case Text.PLUS: return a + b;
                case Text.MINUS: return a - b;
                case Text.TIMES: return a * b;
                default: return 0;
            }
        }
    }

    /** A row of numbers of a sort, or missing. */
    private static final class Sheet {
        static final int MISSING = -1, BYTES = 0, SHORTS = 1;

        int sort = MISSING;
        private int size;
        private final int[] items = new int[CELLS];

        void become(int newSort, int newSize) {
            sort = newSort;
            size = Math.max(Math.min(newSize, CELLS), 0);
            Arrays.fill(items, 0);
        }

        boolean has(int i) {
            return i >= 0 && i < size;
        }

        int item(int i) {
            return has(i) ? items[i] : 0;
        }

        void write(int i, int v) {
            if (has(i)) {
                items[i] = sort == BYTES ? (byte) v : sort == SHORTS ? (short) v : v;
            }
        }
    }
}
