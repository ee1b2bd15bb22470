/** Promises 9 to 14: offers, why one can't be reached, what it earns, the best chain, fixing. */
public final class OffersTest {
    private static final int NONE = TrampOffice.NONE, BAD = TrampOffice.BAD, FULL = TrampOffice.FULL;
    private static final long NO = TrampOffice.NO;
    private static final int[] FAR = {Integer.MIN_VALUE, -2147483647, -1, Integer.MAX_VALUE};
    private static final Due due = new Due("OffersTest");

    /** Ports 0, 1 (gang 100, price 1 and 2) and 2 (gang 50, none sold); ways 0-1 1000, 1-2 500, none 0-2; a ship at 0. */
    private static TrampOffice sea(int bunkers) {
        TrampOffice x = new TrampOffice();
        x.port(100, 1);
        x.port(100, 2);
        x.port(50, 0);
        x.way(0, 1, 1000);
        x.way(1, 2, 500);
        x.ship(0, 1000, bunkers, 20);
        return x;
    }

    private static void estimated(TrampOffice x, int offer, long begin, long end, long burned, long earned, String call) {
        due.is(0, x.why(0, offer), call + ": why");
        due.is(begin, x.estimate(0, offer, 0), call + ": begins");
        due.is(end, x.estimate(0, offer, 1), call + ": ends");
        due.is(burned, x.estimate(0, offer, 2), call + ": burns");
        due.is(earned, x.estimate(0, offer, 3), call + ": earns");
    }

    private static void refused(TrampOffice x, int why, int offer, String call) {
        due.is(why, x.why(0, offer), call + ": why");
        for (int what = 0; what < 4; what++) {
            due.is(NO, x.estimate(0, offer, what), call + ": estimate " + what);
        }
        int port = x.shipTold(0, 0);
        int hour = x.shipTold(0, 1);
        due.is(-20 - why, x.fix(0, offer), call + ": fix");
        due.is(port, x.shipTold(0, 0), call + ": the ship stays");
        due.is(hour, x.shipTold(0, 1), call + ": the ship stays free");
    }

    private static void offer() {
        TrampOffice x = sea(200);
        due.is(BAD, x.offer(0, 0, 1, 1, 1, 1), "9: from = to");
        due.is(BAD, x.offer(0, 3, 1, 1, 1, 1), "9: no port 3");
        due.is(BAD, x.offer(3, 0, 1, 1, 1, 1), "9: no port 3");
        due.is(BAD, x.offer(0, 1, 0, 1, 1, 1), "9: tons 0");
        due.is(BAD, x.offer(0, 1, 10000, 1, 1, 1), "9: tons 10000");
        due.is(BAD, x.offer(0, 1, 1, -1, 1, 1), "9: rate -1");
        due.is(BAD, x.offer(0, 1, 1, 10000, 1, 1), "9: rate 10000");
        due.is(BAD, x.offer(0, 1, 1, 1, -1, 1), "9: open -1");
        due.is(BAD, x.offer(0, 1, 1, 1, 1, 10000), "9: close 10000");
        due.is(BAD, x.offer(0, 1, 1, 1, 10000, 10000), "9: open 10000");
        due.is(BAD, x.offer(0, 1, 1, 1, -1, -1), "9: close -1");
        due.is(BAD, x.offer(0, 1, 1, 1, 2, 1), "9: open above close");
        for (int far : FAR) {
            due.is(BAD, x.offer(far, 1, 1, 1, 1, 1), "9: from " + far);
            due.is(BAD, x.offer(0, far, 1, 1, 1, 1), "9: to " + far);
            due.is(BAD, x.offer(0, 1, far, 1, 1, 1), "9: tons " + far);
            due.is(BAD, x.offer(0, 1, 1, far, 1, 1), "9: rate " + far);
            due.is(BAD, x.offer(0, 1, 1, 1, far, 1), "9: open " + far);
            due.is(BAD, x.offer(0, 1, 1, 1, 1, far), "9: close " + far);
        }
        due.is(0, x.count(2), "9: a refusal changes nothing");
        int[][] good = {{1, 0, 0, 0}, {9999, 9999, 9999, 9999}, {1, 1, 0, 9999}};
        for (int i = 0; i < 10; i++) {
            int[] g = good[i % 3];
            due.is(i, x.offer(i % 2, 1 - i % 2, g[0], g[1], g[2], g[3]), "9: offer " + i);
        }
        due.is(FULL, x.offer(0, 1, 1, 1, 1, 1), "9: an eleventh");
        due.is(BAD, x.offer(0, 0, 1, 1, 1, 1), "9: BAD ahead of FULL");
        due.is(BAD, x.offer(0, 1, 1, 1, 2, 1), "9: BAD ahead of FULL");
        due.is(10, x.count(2), "9: ten offers");
    }

    private static void whyInTurn() {
        TrampOffice x = sea(200);
        x.offer(0, 1, 1001, 9, 0, 9);
        refused(x, 1, 0, "10: more than the hold");
        x.offer(0, 1, 1000, 9, 0, 9);
        // loads 10 hours, 100 at sea that burn 125, unloads 10
        estimated(x, 1, 0, 120, 125, 9000 - 125, "11: just the hold");
        x.offer(0, 2, 1000, 9, 0, 9);
        refused(x, 2, 2, "10: no way on");
        x.offer(2, 1, 1000, 9, 0, 9999);
        refused(x, 2, 3, "10: no way there");
        x.offer(1, 0, 1000, 9, 0, 99);
        refused(x, 3, 4, "10: begins behind close");
        x.offer(1, 0, 1000, 9, 0, 100);
        estimated(x, 5, 100, 220, 250, 9000 - 125 - 250, "11: begins at close");
        x.offer(1, 2, 999, 0, 300, 300);
        // 10 and 20 hours of work, 50 hours that burn 62.5
        estimated(x, 6, 300, 380, 125 + 63, -125 - 126, "11: begins at open");
        due.is(BAD, x.why(0, 7), "10: no offer 7");
        due.is(BAD, x.why(1, 0), "10: no ship 1");
        due.is(BAD, x.fix(0, 7), "14: no offer 7");
        due.is(BAD, x.fix(1, 0), "14: no ship 1");
        due.is(NO, x.estimate(0, 7, 0), "11: no offer 7");
        due.is(NO, x.estimate(1, 0, 0), "11: no ship 1");
        due.is(NO, x.estimate(0, 1, 4), "11: no such what");
        for (int far : FAR) {
            due.is(BAD, x.why(far, 1), "10: ship " + far);
            due.is(BAD, x.why(0, far), "10: offer " + far);
            due.is(NO, x.estimate(far, 1, 0), "11: ship " + far);
            due.is(NO, x.estimate(0, far, 0), "11: offer " + far);
            due.is(NO, x.estimate(0, 1, far), "11: what " + far);
            due.is(BAD, x.fix(far, 1), "14: ship " + far);
            due.is(BAD, x.fix(0, far), "14: offer " + far);
        }
    }

    private static void whyOfCoal() {
        TrampOffice x = sea(124);
        x.offer(0, 1, 1000, 9, 0, 9999);
        x.offer(1, 2, 1000, 9, 0, 9999);
        x.offer(2, 1, 1000, 9, 0, 9999);
        refused(x, 4, 0, "10: the way on burns 125, bunkers 124");
        refused(x, 4, 1, "10: the way there burns 125, bunkers 124");
        x.free(0, 1, 0);
        estimated(x, 1, 0, 80, 63, 9000 - 126, "11: from where it is");
        x.price(1, 0);
        refused(x, 5, 1, "10: none sold where the offer is from");
        x.free(0, 2, 0);
        refused(x, 5, 1, "10: none sold where the ship is");
        x.price(1, 2);
        refused(x, 5, 1, "10: none sold where the ship is");
        refused(x, 5, 2, "10: none sold where both are");
        x.price(2, 3);
        // 50 hours there burn 63 of price 3, 50 on burn 63 of price 2
        estimated(x, 1, 50, 130, 126, 9000 - 189 - 126, "11: both ways at their ports' prices");
        estimated(x, 2, 0, 80, 63, 9000 - 189, "11: no way there, no coal for it");

        TrampOffice y = sea(125);
        y.offer(0, 1, 1000, 9, 0, 9999);
        due.is(0, y.why(0, 0), "10: burns just its bunkers");
        y.price(0, 0);
        due.is(5, y.why(0, 0), "10: none sold");
        y.speed(0, 11);
        due.is(4, y.why(0, 0), "10: 91 hours of 33 burn 126, and 4 is ahead of 5");
    }

    private static void whyInOrder() {
        // each offer has a reason and all those behind it: the least is told
        TrampOffice x = sea(10);
        x.price(0, 0);
        x.price(1, 0);
        x.free(0, 0, 9990);
        x.offer(2, 0, 1001, 9, 0, 9);
        x.offer(2, 0, 1000, 9, 0, 9);
        x.offer(1, 2, 1000, 9, 0, 9);
        x.offer(1, 2, 1000, 9, 0, 9999);
        due.is(1, x.why(0, 0), "10: 1 ahead of all");
        due.is(2, x.why(0, 1), "10: 2 ahead of 3");
        due.is(3, x.why(0, 2), "10: 3 ahead of 4");
        due.is(3, x.why(0, 3), "10: 3, hour 10090");
        x.free(0, 1, 9990);
        due.is(4, x.why(0, 3), "10: 4 ahead of 5");
        x.way(1, 2, 80);
        due.is(5, x.why(0, 3), "10: 5 ahead of 6");
        x.price(1, 1);
        due.is(6, x.why(0, 3), "10: 6, with coal");
        x.free(0, 1, 0);
        due.is(1, x.fix(0, 3), "14: it can");
        due.is(5, x.why(0, 3), "10: 5 ahead of 7");
        x.price(2, 1);
        due.is(7, x.why(0, 3), "10: 7 behind all");
        x.free(0, 1, 9990);
        due.is(6, x.why(0, 3), "10: 6 ahead of 7");
        due.is(-26, x.fix(0, 3), "14: -26");
    }

    private static void lastHour() {
        TrampOffice x = sea(200);
        x.offer(0, 1, 1000, 9, 0, 9999);
        x.free(0, 0, 9879);
        estimated(x, 0, 9879, 9999, 125, 8875, "11: ends at 9999");
        x.free(0, 0, 9880);
        refused(x, 6, 0, "10: ends at 10000");
        x.free(0, 1, 9779);
        estimated(x, 0, 9879, 9999, 250, 9000 - 250 - 125, "11: ends at 9999 behind a way there");
        x.free(0, 1, 9999);
        refused(x, 3, 0, "10: begins at 10099");
    }

    private static void rounding() {
        TrampOffice x = new TrampOffice();
        x.port(10, 7);
        x.port(999, 3);
        x.ship(0, 9999, 999, 50);
        x.offer(0, 1, 9999, 9999, 0, 0);
        x.way(0, 1, 1001);
        // speed 10: 101 hours of 60 by 24: 252.5
        estimated(x, 0, 0, 1000 + 101 + 11, 253, 99980001 - 253 * 7, "11: rounded up");
        x.speed(0, 6);
        // 167 hours of 52 (216 by 100 cut): 361.8
        estimated(x, 0, 0, 1000 + 167 + 11, 362, 99980001 - 362 * 7, "11: speed 6");
        x.speed(0, 14);
        // 72 hours of 77 (2744 by 100 cut): 231
        estimated(x, 0, 0, 1000 + 72 + 11, 231, 99980001 - 231 * 7, "11: speed 14");
        x.speed(0, 13);
        // 77 hours of 71 (2197 by 100 cut): 227.8
        estimated(x, 0, 0, 1000 + 77 + 11, 228, 99980001 - 228 * 7, "11: speed 13");
        x.way(0, 1, 1);
        // 1 hour of 71: 2.96
        estimated(x, 0, 0, 1000 + 1 + 11, 3, 99980001 - 21, "11: 1 mile");
    }

    private static void fix() {
        TrampOffice x = sea(200);
        x.ship(1, 1000, 200, 20);
        x.offer(0, 1, 100, 9, 5, 50);
        x.offer(0, 1, 100, 9, 0, 9999);
        due.is(1, x.fix(0, 0), "14: taken");
        due.is(1, x.shipTold(0, 0), "14: at its port");
        due.is(5 + 1 + 100 + 1, x.shipTold(0, 1), "14: free at its end");
        due.is(1, x.shipTold(1, 0), "14: the other one stays");
        due.is(0, x.shipTold(1, 1), "14: the other one stays");
        due.is(3, x.why(0, 0), "14: 3 ahead of 7");
        x.free(0, 0, 0);
        refused(x, 7, 0, "14: from then on");
        due.is(3, x.why(1, 0), "14: for another ship too, behind 3");
        x.free(1, 0, 50);
        due.is(7, x.why(1, 0), "14: for another ship too");
        due.is(0, x.why(1, 1), "14: the other offer stays");
        due.is(1, x.chain(0, 3, 0), "14: the chain leaves out what is taken");
        due.is(NONE, x.chain(0, 3, 1), "14: the chain leaves out what is taken");
        due.is(1, x.fix(1, 1), "14: by the other");
        due.is(NO, x.best(0, 3, 0), "14: none is left");
        due.is(2, x.count(2), "14: taken ones still count");
    }

    private static void best(TrampOffice x, int ship, int depth, long earned, int hours, int... chain) {
        String call = "best of ship " + ship + " to " + depth;
        due.is(earned, x.best(ship, depth, 0), "12: " + call + ": earns");
        due.is(hours, x.best(ship, depth, 1), "12: " + call + ": hours");
        due.is(chain.length, x.best(ship, depth, 2), "12: " + call + ": offers");
        for (int i = 0; i < chain.length; i++) {
            due.is(chain[i], x.chain(ship, depth, i), "13: " + call + ": offer " + i);
        }
        due.is(NONE, x.chain(ship, depth, chain.length), "13: " + call + ": behind the last");
        due.is(NONE, x.chain(ship, depth, 3), "13: " + call + ": i 3");
        due.is(NONE, x.chain(ship, depth, -1), "13: " + call + ": i -1");
    }

    /** Three ports, each 100 miles from each other, coal for 1, gang 100; a ship at 0: 10 hours burn 13 (base 20). */
    private static TrampOffice triangle() {
        TrampOffice x = new TrampOffice();
        for (int i = 0; i < 3; i++) {
            x.port(100, 1);
        }
        x.way(0, 1, 100);
        x.way(1, 2, 100);
        x.way(0, 2, 100);
        x.ship(0, 1000, 999, 20);
        return x;
    }

    private static void chains() {
        TrampOffice x = triangle();
        due.is(NO, x.best(0, 3, 0), "12: no offers");
        due.is(NONE, x.chain(0, 3, 0), "13: no offers");
        // the way back pays nothing but that the ship is where the good cargo is
        x.offer(1, 0, 100, 10, 0, 9999);
        best(x, 0, 1, 1000 - 26, 22, 0);
        x.offer(0, 1, 100, 1, 0, 9999);
        best(x, 0, 1, 974, 22, 0);
        // with the cargo there: 87 and 987 in 24 hours, against 974 in 22: 44.75 and 44.27 an hour
        best(x, 0, 2, 1074, 24, 1, 0);
        best(x, 0, 3, 1074, 24, 1, 0);
        x.offer(0, 2, 100, 12, 0, 9999);
        // 2 alone: 1187 in 12, more than any longer one
        best(x, 0, 3, 1187, 12, 2);
        x.free(0, 1, 100);
        // 0 and 2: 987 and 1187 in 24
        best(x, 0, 1, 987, 12, 0);
        best(x, 0, 2, 2174, 24, 0, 2);
        x.offer(2, 1, 100, 13, 0, 9999);
        // and 3: 1287 more in 12 more
        best(x, 0, 2, 2174, 24, 0, 2);
        best(x, 0, 3, 3461, 36, 0, 2, 3);
        due.is(NO, x.best(0, 0, 0), "12: depth 0");
        due.is(NO, x.best(0, 4, 0), "12: depth 4");
        due.is(NO, x.best(1, 1, 0), "12: no ship 1");
        due.is(NO, x.best(0, 1, 3), "12: no such what");
        due.is(BAD, x.chain(0, 0, 0), "13: depth 0");
        due.is(BAD, x.chain(0, 4, 0), "13: depth 4");
        due.is(BAD, x.chain(1, 1, 0), "13: no ship 1");
        for (int far : FAR) {
            due.is(NO, x.best(far, 1, 0), "12: ship " + far);
            due.is(NO, x.best(0, far, 0), "12: depth " + far);
            due.is(NO, x.best(0, 1, far), "12: what " + far);
            due.is(BAD, x.chain(far, 1, 0), "13: ship " + far);
            due.is(BAD, x.chain(0, far, 0), "13: depth " + far);
            due.is(NONE, x.chain(0, 3, far), "13: i " + far);
        }
        due.is(1, x.shipTold(0, 0), "12: the ship stays");
        due.is(100, x.shipTold(0, 1), "12: the ship stays");
    }

    private static void likeChains() {
        TrampOffice x = triangle();
        x.offer(1, 2, 100, 10, 0, 9999);
        x.offer(0, 1, 100, 10, 0, 9999);
        x.offer(0, 1, 100, 10, 0, 9999);
        x.offer(2, 0, 100, 10, 0, 9999);
        // 1, 2, and 1 0, 1 0 3 pay 987 by 12 each: the fewest, then the lesser
        best(x, 0, 1, 987, 12, 1);
        best(x, 0, 3, 987, 12, 1);
        x.free(0, 2, 0);
        best(x, 0, 3, 987, 12, 3);

        TrampOffice y = triangle();
        y.offer(0, 1, 100, 1, 0, 9999);
        y.offer(1, 2, 100, 2, 0, 9999);
        y.offer(1, 2, 100, 2, 0, 9999);
        // 0 1 and 0 2 are alike: 87 and 187 in 24; 1 alone has 174 in 22
        best(y, 0, 2, 274, 24, 0, 1);
        y.fix(0, 0);
        y.free(0, 0, 0);
        y.offer(0, 1, 100, 1, 0, 9999);
        // 3 1 and 3 2
        best(y, 0, 2, 274, 24, 3, 1);
        best(y, 0, 3, 274, 24, 3, 1);
    }

    private static void losses() {
        TrampOffice x = triangle();
        x.offer(1, 0, 100, 0, 0, 9999);
        x.offer(0, 1, 100, 0, 0, 9999);
        x.offer(0, 1, 900, 0, 0, 9999);
        // -26 in 22, -13 in 12, -13 in 28: the least loss an hour; 2 and 0: -26 in 40
        best(x, 0, 1, -13, 28, 2);
        best(x, 0, 3, -13, 28, 2);
        TrampOffice y = triangle();
        y.offer(0, 1, 101, 10, 0, 9999);
        y.offer(0, 1, 100, 10, 0, 9999);
        // 997 in 14 is less than 987 in 12
        best(y, 0, 1, 987, 12, 1);
        y.offer(0, 1, 99, 10, 0, 9999);
        y.offer(0, 1, 100, 10, 0, 9999);
        best(y, 0, 1, 987, 12, 1);
    }

    /** 111 in 11 hours and 121 in 12: 1332 and 1331, if each is set against the other's hours. */
    private static void closely() {
        for (int first = 0; first < 2; first++) {
            TrampOffice x = triangle();
            x.way(0, 2, 90);
            for (int i = 0; i < 2; i++) {
                if (i == first) {
                    x.offer(0, 2, 41, 3, 0, 9999);
                } else {
                    x.offer(0, 1, 67, 2, 0, 9999);
                }
            }
            best(x, 0, 1, 111, 11, first);
            due.is(121, x.estimate(0, 1 - first, 3), "12: the other earns more");
            due.is(12, x.estimate(0, 1 - first, 1), "12: the other takes more hours");
        }
    }

    private static void waiting() {
        TrampOffice x = triangle();
        x.free(0, 0, 50);
        x.offer(0, 1, 100, 10, 100, 100);
        // waits from 50 to 100: all hours from 50 on count
        best(x, 0, 1, 987, 62, 0);
        x.offer(0, 2, 100, 9, 0, 9999);
        best(x, 0, 1, 887, 12, 1);
        x.offer(2, 1, 100, 10, 61, 61);
        // at 2 it is at hour 62 only
        best(x, 0, 2, 887, 12, 1);
        x.offer(2, 1, 100, 10, 62, 62);
        best(x, 0, 2, 1874, 24, 1, 3);
    }

    /** Arrives at hour 100: OPEN behind that, at it, ahead of it; and CLOSE at it and ahead of it. */
    private static void arriving() {
        TrampOffice x = sea(200);
        x.offer(1, 0, 100, 9, 101, 101);
        estimated(x, 0, 101, 101 + 1 + 100 + 1, 250, 900 - 125 - 250, "11: an hour ahead of OPEN");
        x.offer(1, 0, 100, 9, 100, 100);
        estimated(x, 1, 100, 202, 250, 900 - 125 - 250, "11: at OPEN, which is CLOSE");
        x.offer(1, 0, 100, 9, 99, 101);
        estimated(x, 2, 100, 202, 250, 900 - 125 - 250, "11: an hour behind OPEN");
        x.offer(1, 0, 100, 9, 99, 99);
        refused(x, 3, 3, "10: an hour behind CLOSE");
        x.offer(1, 0, 100, 9, 0, 9999);
        estimated(x, 4, 100, 202, 250, 900 - 125 - 250, "11: OPEN at 0, CLOSE at 9999");
        x.offer(1, 0, 100, 9, 9999, 9999);
        refused(x, 6, 5, "10: begins at 9999, ends behind it");
        x.offer(1, 0, 100, 9, 9897, 9897);
        estimated(x, 6, 9897, 9999, 250, 900 - 125 - 250, "11: waits, ends at 9999");
        x.offer(1, 0, 100, 9, 9898, 9898);
        refused(x, 6, 7, "10: waits, ends at 10000");
        x.free(0, 0, 1);
        refused(x, 3, 1, "10: free an hour later");
        due.is(0, x.why(0, 0), "10: free an hour later, CLOSE too");
    }

    private static void workingHours() {
        TrampOffice x = new TrampOffice();
        x.port(10, 1);
        x.port(999, 1);
        x.way(0, 1, 10);
        x.ship(0, 9999, 999, 2);
        // the way is 1 hour, 12 by 24: 0.5, so 1 ton burns
        int[][] tonsAndHours = {{1, 1 + 1}, {9, 1 + 1}, {10, 1 + 1}, {11, 2 + 1}, {20, 2 + 1}, {21, 3 + 1}, {999, 100 + 1}, {1000, 100 + 2}, {1998, 200 + 2}, {9999, 1000 + 11}};
        for (int i = 0; i < 10; i++) {
            int tons = tonsAndHours[i][0];
            x.offer(0, 1, tons, 1, 0, 0);
            estimated(x, i, 0, tonsAndHours[i][1] + 1, 1, tons - 1, "11: " + tons + " tons by 10, by 999");
        }
    }

    private static void eachSpeed() {
        // at speed s 10 s miles take 10 hours and one more mile takes 11; base 1 and s s s by 100, cut
        int[] burnsOfTen = {2, 2, 3, 4, 5, 6, 8, 10, 12};
        int[] burnsOfEleven = {2, 2, 3, 4, 6, 7, 9, 11, 13};
        TrampOffice x = new TrampOffice();
        x.port(100, 1);
        x.port(100, 1);
        x.ship(0, 9999, 999, 1);
        x.offer(0, 1, 100, 1, 0, 0);
        for (int s = 6; s <= 14; s++) {
            x.speed(0, s);
            x.way(0, 1, 10 * s);
            estimated(x, 0, 0, 12, burnsOfTen[s - 6], 100 - burnsOfTen[s - 6], "11: 10 hours at speed " + s);
            x.way(1, 0, 10 * s + 1);
            estimated(x, 0, 0, 13, burnsOfEleven[s - 6], 100 - burnsOfEleven[s - 6], "11: 11 hours at speed " + s);
            x.way(1, 0, 1);
            estimated(x, 0, 0, 3, s < 14 ? 1 : 2, s < 14 ? 99 : 98, "11: a mile at speed " + s);
        }
    }

    private static void burningByTwentyFour() {
        TrampOffice x = new TrampOffice();
        x.port(100, 1);
        x.port(100, 1);
        x.ship(0, 9999, 999, 10);
        x.ship(0, 9999, 999, 11);
        x.offer(0, 1, 100, 9, 0, 0);
        x.speed(0, 6);
        x.speed(1, 6);
        // 12 an hour of ship 0, 13 of ship 1
        x.way(0, 1, 12);
        estimated(x, 0, 0, 4, 1, 899, "11: 24 by 24");
        due.is(2, x.estimate(1, 0, 2), "11: 26 by 24");
        x.way(0, 1, 13);
        estimated(x, 0, 0, 5, 2, 898, "11: 36 by 24");
        x.way(0, 1, 144);
        estimated(x, 0, 0, 26, 12, 888, "11: 288 by 24");
        due.is(13, x.estimate(1, 0, 2), "11: 312 by 24");
        x.way(0, 1, 138);
        due.is(13, x.estimate(1, 0, 2), "11: 299 by 24");
        x.way(0, 1, 132);
        due.is(12, x.estimate(1, 0, 2), "11: 286 by 24");
    }

    private static void longestWay() {
        TrampOffice x = new TrampOffice();
        x.port(999, 99);
        x.port(999, 99);
        x.way(0, 1, 9999);
        x.ship(0, 9999, 999, 1);
        x.offer(0, 1, 1, 9999, 0, 9999);
        x.offer(1, 0, 1, 0, 0, 9999);
        x.speed(0, 6);
        // 1667 hours of 3: 208.4
        estimated(x, 0, 0, 1669, 209, 9999 - 209 * 99, "11: 9999 miles at speed 6");
        estimated(x, 1, 1667, 1667 + 1669, 418, -418 * 99, "11: 9999 miles twice, for nothing");
        x.speed(0, 14);
        // 715 hours of 28: 834.2
        estimated(x, 0, 0, 717, 835, 9999 - 835 * 99, "11: 9999 miles at speed 14");
        x.speed(0, 6);
        x.free(0, 0, 9999 - 1669);
        estimated(x, 0, 8330, 9999, 209, 9999 - 209 * 99, "11: just till 9999");
        x.free(0, 0, 9999 - 1668);
        refused(x, 6, 0, "10: till 10000");
        x.free(0, 0, 0);
        x.ship(0, 100, 999, 50);
        x.speed(1, 14);
        // 715 hours of 77: 2293.96
        due.is(4, x.why(1, 0), "10: more than any BUNKERS");
    }

    /** BUNKERS bound each way by itself: 63 tons there and 125 on, and the other way round. */
    private static void bunkersOfEachWay() {
        for (int bunkers = 62; bunkers <= 63; bunkers++) {
            TrampOffice x = sea(bunkers);
            x.price(2, 1);
            x.way(0, 2, 500);
            x.offer(2, 1, 100, 9, 0, 9999);
            if (bunkers == 62) {
                refused(x, 4, 0, "10: both ways burn 63, bunkers 62");
            } else {
                estimated(x, 0, 50, 50 + 2 + 50 + 1, 126, 900 - 63 - 63, "11: both ways burn 63, bunkers 63");
            }
            x.free(0, 2, 0);
            due.is(bunkers == 62 ? 4 : 0, x.why(0, 0), "10: the way on burns 63, bunkers " + bunkers);
            x.way(1, 2, 8);
            due.is(0, x.why(0, 0), "10: no way there, a short one on");
            x.free(0, 0, 0);
            due.is(bunkers == 62 ? 4 : 0, x.why(0, 0), "10: the way there burns 63, bunkers " + bunkers);
        }
    }

    /** A way that burns 1 ton burns some; a way from a port to itself burns none. */
    private static void wayThatBurnsOne() {
        TrampOffice x = sea(200);
        x.ship(0, 1000, 10, 1);
        x.way(0, 1, 1);
        x.offer(0, 1, 100, 9, 0, 9999);
        x.offer(1, 0, 100, 9, 0, 9999);
        due.is(1, x.estimate(1, 0, 2), "11: burns 1");
        due.is(2, x.estimate(1, 1, 2), "11: burns 1 and 1");
        x.price(0, 0);
        due.is(5, x.why(1, 0), "10: 1 ton, none sold");
        due.is(NO, x.estimate(1, 0, 2), "11: 1 ton, none sold");
        due.is(5, x.why(1, 1), "10: 1 ton on the way there, none sold");
        x.free(1, 1, 0);
        due.is(0, x.why(1, 1), "10: none sold where it goes");
        due.is(100 * 9 - 2, x.estimate(1, 1, 3), "11: for the way on alone");
        due.is(5, x.why(1, 0), "10: none sold where the offer is from");
        x.price(0, 1);
        x.price(1, 0);
        due.is(5, x.why(1, 0), "10: none sold where the ship is");
        due.is(5, x.why(1, 1), "10: none sold where both are");
    }

    /** 7 is behind 1, 2 and 4 too. */
    private static void takenBehindAll() {
        TrampOffice x = sea(200);
        x.offer(0, 1, 1000, 9, 0, 9999);
        x.fix(0, 0);
        x.ship(0, 999, 200, 20);
        x.ship(2, 1000, 200, 20);
        x.ship(0, 1000, 124, 20);
        x.ship(0, 1000, 125, 20);
        due.is(1, x.why(1, 0), "10: 1 ahead of 7");
        due.is(-21, x.fix(1, 0), "14: 1 ahead of 7");
        due.is(2, x.why(2, 0), "10: 2 ahead of 7");
        due.is(-22, x.fix(2, 0), "14: 2 ahead of 7");
        due.is(4, x.why(3, 0), "10: 4 ahead of 7");
        due.is(-24, x.fix(3, 0), "14: 4 ahead of 7");
        due.is(7, x.why(4, 0), "10: 7");
        due.is(-27, x.fix(4, 0), "14: 7");
        due.is(-27, x.fix(4, 0), "14: 7, once more");
        for (int what = 0; what < 4; what++) {
            due.is(NO, x.estimate(4, 0, what), "11: a taken one is refused, " + what);
        }
        due.is(NO, x.best(4, 3, 0), "12: no chain of a taken one");
        due.is(NONE, x.chain(4, 3, 0), "13: no chain of a taken one");
        due.is(0, x.shipTold(4, 0), "14: a refusal changes nothing");
    }

    /** The first time it waits till hour 100: a second time the same offer would pay much more an hour. */
    private static void unlikeOffers() {
        TrampOffice x = triangle();
        x.offer(0, 1, 100, 10, 100, 9999);
        for (int depth = 1; depth <= 3; depth++) {
            best(x, 0, depth, 987, 112, 0);
        }
        x.offer(1, 0, 100, 1, 0, 9999);
        // 0 1: 1074 in 124; 1 0: 74 in 22, then 987 till 112
        best(x, 0, 1, 987, 112, 0);
        best(x, 0, 2, 1061, 112, 1, 0);
        best(x, 0, 3, 1061, 112, 1, 0);
    }

    /** Ports 0 1 2 in a triangle, ports 3 and 4 behind 0 in a row: who goes there does not come back to the triangle. */
    private static TrampOffice branch() {
        TrampOffice x = triangle();
        x.port(100, 1);
        x.port(100, 1);
        x.way(0, 3, 100);
        x.way(3, 4, 100);
        return x;
    }

    private static void fewestFirst() {
        TrampOffice x = triangle();
        x.offer(0, 1, 100, 5, 0, 9999);
        x.offer(1, 2, 100, 15, 0, 9999);
        best(x, 0, 2, 1974, 24, 0, 1);
        x.offer(0, 2, 100, 10, 0, 9999);
        // 0 1: 487 and 1487 in 24 hours; 2: 987 in 12
        best(x, 0, 2, 987, 12, 2);
        best(x, 0, 3, 987, 12, 2);

        TrampOffice y = branch();
        y.offer(0, 1, 100, 5, 0, 9999);
        y.offer(1, 2, 100, 10, 0, 9999);
        y.offer(2, 0, 100, 15, 0, 9999);
        best(y, 0, 3, 2961, 36, 0, 1, 2);
        y.offer(0, 3, 100, 6, 0, 9999);
        y.offer(3, 4, 100, 14, 0, 9999);
        // 0 1 2: 2961 in 36; 3 4: 1974 in 24; 2 alone: 1474 in 22
        best(y, 0, 1, 1474, 22, 2);
        best(y, 0, 2, 1974, 24, 3, 4);
        best(y, 0, 3, 1974, 24, 3, 4);

        TrampOffice z = triangle();
        z.offer(1, 2, 100, 0, 0, 9999);
        z.offer(0, 1, 100, 0, 0, 9999);
        z.offer(2, 0, 100, 0, 0, 9999);
        // losses alike: 1; 1 0; 1 0 2, 13 in 12 hours each
        best(z, 0, 1, -13, 12, 1);
        best(z, 0, 2, -13, 12, 1);
        best(z, 0, 3, -13, 12, 1);
    }

    private static void lesserFirst() {
        TrampOffice x = branch();
        x.offer(0, 1, 100, 5, 0, 9999);
        x.offer(0, 3, 100, 6, 0, 9999);
        x.offer(3, 4, 100, 14, 0, 9999);
        best(x, 0, 2, 1974, 24, 1, 2);
        x.offer(1, 2, 100, 15, 0, 9999);
        // 0 3 and 1 2 are alike: the first place tells, though 3 is above 2
        best(x, 0, 2, 1974, 24, 0, 3);
        best(x, 0, 3, 1974, 24, 0, 3);

        TrampOffice y = triangle();
        y.offer(0, 1, 100, 5, 0, 9999);
        y.offer(1, 2, 100, 10, 0, 9999);
        y.offer(2, 0, 100, 15, 0, 9999);
        y.offer(2, 0, 100, 15, 0, 9999);
        y.offer(2, 0, 100, 15, 0, 9999);
        // they differ at the third place alone
        best(y, 0, 3, 487 + 987 + 1487, 36, 0, 1, 2);
        y.free(0, 2, 0);
        due.is(1, y.fix(0, 2), "14: it is at 0 again");
        best(y, 0, 3, 487 + 987 + 1487, 36, 0, 1, 3);
    }

    /** What earns nothing is alike, in whatever hours. */
    private static void zeroIsAlike() {
        TrampOffice x = triangle();
        x.offer(0, 1, 13, 1, 30, 9999);
        x.offer(0, 2, 13, 1, 0, 9999);
        best(x, 0, 1, 0, 42, 0);
        best(x, 0, 3, 0, 42, 0);
        x.offer(0, 2, 14, 1, 9000, 9000);
        // 1 in 9012 hours is more than nothing
        best(x, 0, 1, 1, 9012, 2);
        x.offer(0, 1, 12, 1, 0, 9999);
        best(x, 0, 1, 1, 9012, 2);
    }

    /** Earnings by the other's hours go beyond 32 bits: 99979988 in 34 hours, 99979935 in 64. */
    private static void great() {
        for (int first = 0; first < 2; first++) {
            TrampOffice x = new TrampOffice();
            for (int i = 0; i < 3; i++) {
                x.port(999, 1);
            }
            x.way(0, 1, 100);
            x.way(0, 2, 420);
            x.ship(0, 9999, 999, 20);
            x.offer(0, 1 + first, 9999, 9999, 0, 9999);
            x.offer(0, 2 - first, 9999, 9999, 0, 9999);
            best(x, 0, 1, 99980001 - 13, 11 + 10 + 11, first);
            due.is(99980001 - 53, x.estimate(0, 1 - first, 3), "11: of the long way");
            due.is(64, x.estimate(0, 1 - first, 1), "11: hours of the long way");
        }
        TrampOffice y = new TrampOffice();
        y.port(999, 99);
        y.port(999, 99);
        y.way(0, 1, 100);
        y.ship(0, 9999, 999, 20);
        for (int i = 0; i < 10; i++) {
            y.offer(i % 2, 1 - i % 2, 9999, 9999, 0, 9999);
        }
        // ten offers: no chain of three pays more an hour than the first one
        best(y, 0, 3, 99980001 - 13 * 99, 32, 0);
        y.free(0, 1, 9999 - 32 * 3);
        best(y, 0, 3, 99980001 - 13 * 99, 32, 1);
    }

    /** A chain's later offers are refused as any: behind 9999, where no coal is sold, where a way lacks. */
    private static void refusedInChains() {
        TrampOffice x = triangle();
        x.offer(0, 1, 100, 20, 0, 9999);
        x.offer(1, 2, 100, 50, 0, 9999);
        x.free(0, 0, 9999 - 24);
        best(x, 0, 2, 1987 + 4987, 24, 0, 1);
        x.free(0, 0, 9999 - 23);
        // 1 alone: 10 hours there and 12
        best(x, 0, 2, 5000 - 26, 22, 1);
        x.free(0, 0, 9999 - 21);
        best(x, 0, 3, 1987, 12, 0);
        x.free(0, 0, 9999 - 11);
        due.is(NO, x.best(0, 3, 0), "12: no chain ends in time");
        due.is(NONE, x.chain(0, 3, 0), "13: no chain ends in time");
        x.free(0, 0, 0);
        best(x, 0, 3, 6974, 24, 0, 1);
        x.price(1, 0);
        best(x, 0, 3, 1987, 12, 0);

        TrampOffice y = branch();
        y.offer(0, 1, 100, 20, 0, 9999);
        y.offer(3, 4, 100, 99, 0, 9999);
        y.free(0, 4, 0);
        // from 4 a way to 3, none to 0; from 1 none to 3
        best(y, 0, 3, 9900 - 26, 22, 1);
        y.free(0, 1, 0);
        best(y, 0, 3, 2000 - 26, 22, 0);
    }

    private static void whichFirst() {
        TrampOffice x = triangle();
        due.is(BAD, x.chain(1, 1, 0), "13: no ship, no chain");
        due.is(BAD, x.chain(1, 1, -1), "13: no ship, no i");
        due.is(BAD, x.chain(0, 0, 0), "13: no depth, no chain");
        due.is(BAD, x.chain(0, 4, 9), "13: no depth, no i");
        due.is(NONE, x.chain(0, 1, -1), "13: no chain, no i");
        x.offer(0, 1, 1000, 1, 0, 0);
        x.offer(0, 1, 1001, 1, 0, 0);
        due.is(BAD, x.fix(1, 1), "14: BAD ahead of a WHY");
        due.is(BAD, x.why(1, 1), "10: BAD ahead of a WHY");
        due.is(BAD, x.offer(0, 0, 0, -1, 9, 8), "9: all wrong");
        TrampOffice y = new TrampOffice();
        due.is(BAD, y.offer(0, 1, 1, 1, 1, 1), "9: a new object has no ports");
        due.is(BAD, y.why(0, 0), "10: a new object");
        due.is(NO, y.estimate(0, 0, 0), "11: a new object");
        due.is(NO, y.best(0, 1, 0), "12: a new object");
        due.is(BAD, y.chain(0, 1, 0), "13: a new object");
        due.is(BAD, y.fix(0, 0), "14: a new object");
    }

    public static void main(String[] args) {
        arriving();
        workingHours();
        eachSpeed();
        burningByTwentyFour();
        longestWay();
        bunkersOfEachWay();
        wayThatBurnsOne();
        takenBehindAll();
        unlikeOffers();
        fewestFirst();
        lesserFirst();
        zeroIsAlike();
        great();
        refusedInChains();
        whichFirst();
        offer();
        whyInTurn();
        whyOfCoal();
        whyInOrder();
        lastHour();
        rounding();
        fix();
        chains();
        likeChains();
        losses();
        closely();
        waiting();
        due.end();
    }
}
