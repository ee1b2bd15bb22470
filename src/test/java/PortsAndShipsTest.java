/** Promises 1 to 8: a new object, ports, ways, prices, ships. */
public final class PortsAndShipsTest {
    private static final int BAD = TrampOffice.BAD, FULL = TrampOffice.FULL;
    private static final int[] FAR = {Integer.MIN_VALUE, -2147483647, -1, Integer.MAX_VALUE};
    private static final Due due = new Due("PortsAndShipsTest");

    private static TrampOffice ported() {
        TrampOffice x = new TrampOffice();
        x.port(100, 10);
        x.port(50, 5);
        x.port(20, 0);
        return x;
    }

    private static void newObject() {
        TrampOffice x = new TrampOffice();
        for (int what = 0; what < 7; what++) {
            due.is(what == 3 ? 1 : 0, x.count(what), "1: count " + what);
        }
        for (int i = 0; i < 4; i++) {
            due.is(-11, x.cell(i, 0, 0), "1: sheet " + i + " is missing");
        }
        due.is(0, x.clear(), "1: the route is empty");
        due.is(-100, x.text(), "1: the tape is empty");
        due.is(TrampOffice.NO, x.pays(0), "1: no charter");
        // TEXT 0 counts each SORT as the document tells it
        x.port(10, 0);
        x.ship(0, 100, 10, 1);
        int[] how = {2, 0, 0, 2, 1, 2};
        for (int sort = 0; sort < 6; sort++) {
            x.log(0, sort, 1);
        }
        due.is(0, x.charter(0, 0, 0, 9, 0, 0), "1: a charter with text 0");
        for (int sort = 0; sort < 6; sort++) {
            due.is(how[sort], x.counts(0, sort), "1: text 0 of sort " + sort);
        }
        TrampOffice y = new TrampOffice();
        due.is(0, y.count(0), "1: two objects have nothing in common");
    }

    private static void port() {
        TrampOffice x = new TrampOffice();
        due.is(BAD, x.port(9, 0), "2: gang 9");
        due.is(BAD, x.port(1000, 0), "2: gang 1000");
        due.is(BAD, x.port(10, -1), "2: price -1");
        due.is(BAD, x.port(10, 100), "2: price 100");
        for (int far : FAR) {
            due.is(BAD, x.port(far, 0), "2: gang " + far);
            due.is(BAD, x.port(10, far), "2: price " + far);
        }
        due.is(0, x.count(0), "2: a refusal changes nothing");
        int[][] good = {{10, 0}, {999, 99}, {11, 1}, {998, 98}, {500, 50}, {10, 0}, {10, 0}, {10, 0}};
        for (int i = 0; i < 8; i++) {
            due.is(i, x.port(good[i][0], good[i][1]), "2: port " + i);
        }
        due.is(FULL, x.port(10, 0), "2: a ninth");
        due.is(BAD, x.port(9, 0), "2: BAD ahead of FULL");
        due.is(BAD, x.port(10, 100), "2: BAD ahead of FULL");
        due.is(8, x.count(0), "2: eight ports");
        due.is(0, x.price(0, 0), "2: the price of port 0");
        due.is(99, x.price(1, 0), "2: the price of port 1");
        due.is(50, x.price(4, 0), "2: the price of port 4");
    }

    private static void way() {
        TrampOffice x = ported();
        due.is(0, x.way(0, 1, 1), "3: none at first");
        due.is(1, x.way(0, 1, 9999), "3: as it was");
        due.is(9999, x.way(1, 0, 300), "3: both ways");
        due.is(300, x.way(0, 1, 300), "3: both ways");
        due.is(0, x.way(0, 2, 20), "3: another one");
        due.is(0, x.way(2, 1, 21), "3: another one");
        due.is(20, x.way(2, 0, 20), "3: it stays");
        due.is(BAD, x.way(0, 0, 5), "3: a = b");
        due.is(BAD, x.way(0, 1, 0), "3: MILES 0");
        due.is(BAD, x.way(0, 1, 10000), "3: MILES 10000");
        due.is(BAD, x.way(0, 3, 5), "3: no port 3");
        due.is(BAD, x.way(3, 0, 5), "3: no port 3");
        due.is(BAD, x.way(-1, 0, 5), "3: no port -1");
        due.is(BAD, x.way(0, -1, 5), "3: no port -1");
        due.is(BAD, x.way(-1, -1, 5), "3: no port -1 twice");
        for (int far : FAR) {
            due.is(BAD, x.way(far, 0, 5), "3: a " + far);
            due.is(BAD, x.way(0, far, 5), "3: b " + far);
            due.is(BAD, x.way(0, 1, far), "3: miles " + far);
        }
        due.is(300, x.way(0, 1, 1), "3: a refusal changes nothing");
        for (int i = 3; i < 8; i++) {
            x.port(10, 0);
        }
        due.is(0, x.way(7, 6, 4), "3: the last ports");
        due.is(4, x.way(6, 7, 4), "3: the last ports");
        due.is(BAD, x.way(7, 8, 4), "3: no port 8");
    }

    private static void price() {
        TrampOffice x = ported();
        due.is(10, x.price(0, 99), "4: what it was");
        due.is(99, x.price(0, 0), "4: 99");
        due.is(0, x.price(0, 1), "4: 0");
        due.is(5, x.price(1, 7), "4: of another port");
        due.is(1, x.price(0, 1), "4: each has its own");
        due.is(BAD, x.price(0, 100), "4: 100");
        due.is(BAD, x.price(0, -1), "4: -1");
        due.is(BAD, x.price(3, 1), "4: no port 3");
        for (int far : FAR) {
            due.is(BAD, x.price(far, 1), "4: port " + far);
            due.is(BAD, x.price(0, far), "4: price " + far);
        }
        due.is(1, x.price(0, 1), "4: a refusal changes nothing");
    }

    private static void ship() {
        TrampOffice x = ported();
        due.is(BAD, x.ship(3, 100, 10, 1), "5: no port 3");
        due.is(BAD, x.ship(0, 99, 10, 1), "5: hold 99");
        due.is(BAD, x.ship(0, 10000, 10, 1), "5: hold 10000");
        due.is(BAD, x.ship(0, 100, 9, 1), "5: bunkers 9");
        due.is(BAD, x.ship(0, 100, 1000, 1), "5: bunkers 1000");
        due.is(BAD, x.ship(0, 100, 10, 0), "5: base 0");
        due.is(BAD, x.ship(0, 100, 10, 51), "5: base 51");
        for (int far : FAR) {
            due.is(BAD, x.ship(far, 100, 10, 1), "5: port " + far);
            due.is(BAD, x.ship(0, far, 10, 1), "5: hold " + far);
            due.is(BAD, x.ship(0, 100, far, 1), "5: bunkers " + far);
            due.is(BAD, x.ship(0, 100, 10, far), "5: base " + far);
        }
        due.is(0, x.count(1), "5: a refusal changes nothing");
        int[][] good = {{0, 100, 10, 1}, {2, 9999, 999, 50}, {1, 101, 11, 2}, {1, 9998, 998, 49}, {0, 500, 50, 25}};
        for (int i = 0; i < 5; i++) {
            int[] g = good[i];
            due.is(i, x.ship(g[0], g[1], g[2], g[3]), "5: ship " + i);
        }
        for (int i = 0; i < 5; i++) {
            int[] g = good[i];
            int[] told = {g[0], 0, g[1], g[2], g[3], 10, 0};
            for (int what = 0; what < 7; what++) {
                due.is(told[what], x.shipTold(i, what), "5: ship " + i + " told " + what);
            }
        }
        due.is(FULL, x.ship(0, 100, 10, 1), "5: a sixth");
        due.is(BAD, x.ship(3, 100, 10, 1), "5: BAD ahead of FULL");
        due.is(BAD, x.ship(0, 100, 10, 51), "5: BAD ahead of FULL");
        due.is(5, x.count(1), "5: five ships");
    }

    private static void speed() {
        TrampOffice x = ported();
        x.ship(0, 100, 10, 1);
        x.ship(0, 100, 10, 1);
        due.is(10, x.speed(0, 6), "6: 10 at first");
        due.is(6, x.speed(0, 14), "6: 6");
        due.is(14, x.speed(0, 7), "6: 14");
        due.is(10, x.speed(1, 13), "6: each has its own");
        due.is(BAD, x.speed(0, 5), "6: 5");
        due.is(BAD, x.speed(0, 15), "6: 15");
        due.is(BAD, x.speed(2, 10), "6: no ship 2");
        for (int far : FAR) {
            due.is(BAD, x.speed(far, 10), "6: ship " + far);
            due.is(BAD, x.speed(0, far), "6: speed " + far);
        }
        due.is(7, x.speed(0, 7), "6: a refusal changes nothing");
        due.is(7, x.shipTold(0, 5), "6: told");
    }

    private static void free() {
        TrampOffice x = ported();
        x.ship(0, 100, 10, 1);
        x.ship(0, 100, 10, 1);
        due.is(1, x.free(0, 2, 9999), "7: hour 9999");
        due.is(2, x.shipTold(0, 0), "7: its port");
        due.is(9999, x.shipTold(0, 1), "7: its hour");
        due.is(0, x.shipTold(1, 0), "7: the other's port");
        due.is(0, x.shipTold(1, 1), "7: the other's hour");
        due.is(1, x.free(0, 1, 0), "7: back at hour 0");
        due.is(0, x.shipTold(0, 1), "7: hour 0");
        x.free(0, 1, 17);
        due.is(BAD, x.free(0, 3, 5), "7: no port 3");
        due.is(BAD, x.free(2, 0, 5), "7: no ship 2");
        due.is(BAD, x.free(0, 0, 10000), "7: hour 10000");
        for (int far : FAR) {
            due.is(BAD, x.free(far, 0, 5), "7: ship " + far);
            due.is(BAD, x.free(0, far, 5), "7: port " + far);
            due.is(BAD, x.free(0, 0, far), "7: hour " + far);
        }
        due.is(1, x.shipTold(0, 0), "7: a refusal changes nothing");
        due.is(17, x.shipTold(0, 1), "7: a refusal changes nothing");
    }

    private static void shipTold() {
        TrampOffice x = ported();
        x.ship(0, 200, 20, 2);
        x.free(0, 1, 44);
        x.log(0, 3, 9);
        due.is(1, x.shipTold(0, 0), "8: port");
        due.is(44, x.shipTold(0, 1), "8: hour");
        due.is(200, x.shipTold(0, 2), "8: hold");
        due.is(20, x.shipTold(0, 3), "8: bunkers");
        due.is(2, x.shipTold(0, 4), "8: base");
        due.is(10, x.shipTold(0, 5), "8: speed");
        due.is(9, x.shipTold(0, 6), "8: hours of the log");
        due.is(BAD, x.shipTold(0, 7), "8: no such");
        due.is(BAD, x.shipTold(1, 0), "8: no ship 1");
        for (int far : FAR) {
            due.is(BAD, x.shipTold(far, 0), "8: ship " + far);
            due.is(BAD, x.shipTold(0, far), "8: what " + far);
        }
    }

    private static void whichFirst() {
        TrampOffice x = new TrampOffice();
        due.is(BAD, x.way(0, 1, 1), "3: a new object has no ports");
        due.is(BAD, x.price(0, 0), "4: a new object");
        due.is(BAD, x.ship(0, 100, 10, 1), "5: a new object");
        due.is(BAD, x.speed(0, 10), "6: a new object has no ships");
        due.is(BAD, x.free(0, 0, 0), "7: a new object");
        due.is(BAD, x.shipTold(0, 0), "8: a new object");
        due.is(0, x.port(10, 0), "2: the first port");
        due.is(BAD, x.way(0, 0, 1), "3: one port alone");
        due.is(BAD, x.free(0, 0, 0), "7: no ship yet");
        due.is(BAD, x.shipTold(-1, 7), "8: all wrong");
    }

    /** A gang and a price stay with their port, a way with its two ports, whatever is refused. */
    private static void keptBehindRefusals() {
        TrampOffice x = ported();
        x.way(0, 1, 10);
        x.ship(0, 9999, 999, 2);
        x.offer(0, 1, 1000, 1, 0, 0);
        // 10 hours of 100 tons, 1 at sea, 20 of 50; 1 ton burns at price 10
        for (int round = 0; round < 2; round++) {
            due.is(31, x.estimate(0, 0, 1), "2: hours by both gangs");
            due.is(990, x.estimate(0, 0, 3), "2: by the first one's price");
            x.port(9, 5);
            x.port(10, 100);
            x.way(0, 1, 0);
            x.way(1, 0, 10000);
            x.way(1, 1, 5);
            x.price(0, 100);
            x.price(0, -1);
            x.speed(0, 5);
            x.speed(0, 15);
            x.free(0, 3, 5);
            x.free(0, 1, 10000);
            x.ship(0, 99, 10, 1);
        }
        due.is(3, x.count(0), "2: three ports");
        due.is(1, x.count(1), "5: one ship");
    }

    public static void main(String[] args) {
        whichFirst();
        keptBehindRefusals();
        newObject();
        port();
        way();
        price();
        ship();
        speed();
        free();
        shipTold();
        due.end();
    }
}
