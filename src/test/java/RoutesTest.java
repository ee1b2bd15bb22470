/** Promises 15 to 18: the route, bunkering at least cost, what is bought where. */
public final class RoutesTest {
    private static final int NONE = TrampOffice.NONE, BAD = TrampOffice.BAD, FULL = TrampOffice.FULL;
    private static final int[] FAR = {Integer.MIN_VALUE, -2147483647, -1, Integer.MAX_VALUE};
    private static final Due due = new Due("RoutesTest");

    /** Ports of these prices, each 80 miles from each other: 8 hours of 30 by 24 burn 10 tons; a ship of base 20. */
    private static TrampOffice sea(int bunkers, int... prices) {
        TrampOffice x = new TrampOffice();
        for (int price : prices) {
            x.port(10, price);
        }
        for (int a = 0; a < prices.length; a++) {
            for (int b = a + 1; b < prices.length; b++) {
                x.way(a, b, 80);
            }
        }
        x.ship(0, 100, bunkers, 20);
        return x;
    }

    private static void route(TrampOffice x, int... ports) {
        x.clear();
        for (int port : ports) {
            x.go(port);
        }
    }

    private static void bunkered(TrampOffice x, String call, int cost, int... tons) {
        due.is(cost, x.bunker(0), "17: " + call);
        for (int i = 0; i < tons.length; i++) {
            due.is(tons[i], x.bought(0, i), "18: " + call + ": bought at " + i);
        }
        due.is(NONE, x.bought(0, tons.length), "18: " + call + ": at the last one");
        due.is(NONE, x.bought(0, 6), "18: " + call + ": at 6");
    }

    private static void go() {
        TrampOffice x = sea(60, 1, 2, 3);
        due.is(1, x.go(0), "15: first");
        due.is(BAD, x.go(0), "15: the one that is last there");
        due.is(BAD, x.go(3), "15: no port 3");
        for (int far : FAR) {
            due.is(BAD, x.go(far), "15: port " + far);
        }
        due.is(1, x.count(6), "15: a refusal changes nothing");
        due.is(2, x.go(1), "15: second");
        due.is(3, x.go(0), "15: again one that is there, not last");
        due.is(4, x.go(2), "15: fourth");
        due.is(5, x.go(0), "15: fifth");
        due.is(6, x.go(1), "15: sixth");
        due.is(FULL, x.go(2), "15: a seventh");
        due.is(BAD, x.go(1), "15: BAD ahead of FULL");
        due.is(BAD, x.go(3), "15: BAD ahead of FULL");
        due.is(6, x.count(6), "15: six");
        due.is(6, x.clear(), "16: six it had");
        due.is(0, x.count(6), "16: empty");
        due.is(0, x.clear(), "16: none it had");
        due.is(1, x.go(1), "15: the last one of the old route");
        due.is(1, x.clear(), "16: one it had");
    }

    private static void none() {
        TrampOffice x = sea(60, 1, 2, 3);
        x.port(10, 5);
        bunkered(x, "an empty route", NONE);
        route(x, 1);
        bunkered(x, "a route of one", NONE);
        due.is(BAD, x.bunker(1), "17: no ship 1, ahead of the short route");
        due.is(BAD, x.bought(1, 0), "18: no ship 1, ahead of the short route");
        route(x, 0, 3);
        bunkered(x, "a way lacks", NONE);
        due.is(NONE, x.bought(0, 0), "18: a way lacks");
        route(x, 0, 1, 3);
        bunkered(x, "the last way lacks", NONE);
        route(x, 3, 0, 1);
        bunkered(x, "the first way lacks", NONE);
        due.is(NONE, x.bought(0, 1), "18: the first way lacks");
        for (int far : FAR) {
            due.is(BAD, x.bunker(far), "17: ship " + far);
            due.is(BAD, x.bought(far, 0), "18: ship " + far);
        }
        route(x, 0, 1);
        for (int far : FAR) {
            due.is(NONE, x.bought(0, far), "18: i " + far);
        }
        x.price(0, 0);
        bunkered(x, "none sold at the first", NONE);
        due.is(NONE, x.bought(0, 0), "18: none sold at the first");
        x.price(0, 1);
        x.way(0, 1, 481);
        // 49 hours of 30 by 24: 61.25
        bunkered(x, "more than bunkers", NONE);
        x.way(0, 1, 480);
        bunkered(x, "just bunkers", 60, 60);
    }

    private static void least() {
        TrampOffice x = sea(60, 5, 3, 9);
        route(x, 0, 1);
        bunkered(x, "one way", 50, 10);
        route(x, 1, 0);
        bunkered(x, "back", 30, 10);
        route(x, 0, 1, 2);
        bunkered(x, "cheaper at the second", 80, 10, 10);
        route(x, 1, 0, 2);
        bunkered(x, "cheaper at the first", 60, 20, 0);
        route(x, 1, 0, 1, 2, 0, 1);
        // 20 at 3, then at 3 again 30
        bunkered(x, "a longer route", 150, 20, 0, 30, 0, 0);
        x.price(0, 0);
        route(x, 1, 0, 1, 0);
        bunkered(x, "none sold between", 90, 20, 0, 10);
        route(x, 0, 1);
        bunkered(x, "begins with no coal", NONE);

        TrampOffice y = sea(25, 2, 9, 5, 9);
        route(y, 0, 1, 2, 3);
        // 25 fit in at 2: 15 are left, 5 at the third, 5 more there at 5
        bunkered(y, "bunkers hold 25", 50 + 25, 25, 0, 5);
        y.price(2, 0);
        // at the third one 10 must be left: 5 at the second at 9
        bunkered(y, "bunkers hold 25, none sold at the third", 50 + 45, 25, 5, 0);
        y.speed(0, 14);
        // 80 miles by 14: 6 hours of 47 by 24: 11.75
        y.price(2, 5);
        bunkered(y, "at its speed", 50 + 11 * 5, 25, 0, 11);
    }

    private static void likeCosts() {
        TrampOffice x = sea(60, 4, 4, 4);
        route(x, 0, 1, 2);
        bunkered(x, "less at the first port", 80, 10, 10);
        route(x, 0, 1, 2, 0, 1, 2);
        bunkered(x, "less at each but the last", 200, 10, 10, 10, 10, 10);
        x.price(2, 9);
        route(x, 0, 1, 2, 0);
        bunkered(x, "less at the first, then at the second", 120, 10, 20, 0);
        x.price(1, 9);
        x.price(2, 4);
        route(x, 0, 1, 2, 1, 0);
        // at 1 none is bought; 20 at 0 and 20 at 2
        bunkered(x, "dear ones between", 160, 20, 0, 20, 0);

        TrampOffice y = sea(20, 4, 4, 4, 4);
        y.price(3, 0);
        route(y, 0, 1, 3, 2);
        bunkered(y, "coal for the one that sells none", 120, 10, 20, 0);
    }

    private static void most() {
        TrampOffice x = new TrampOffice();
        x.port(10, 99);
        x.port(10, 99);
        x.ship(0, 100, 999, 50);
        // 1665 hours of 52 by 24: 3607.5, more than bunkers; 460 hours: 996.67
        x.speed(0, 6);
        x.way(0, 1, 9999);
        route(x, 0, 1);
        bunkered(x, "the longest way", NONE);
        x.way(0, 1, 2760);
        bunkered(x, "a long way", 997 * 99, 997);
        route(x, 0, 1, 0, 1, 0, 1);
        bunkered(x, "the dearest route", 5 * 997 * 99, 997, 997, 997, 997, 997);
        due.is(6, x.count(6), "17: the route stays");
    }

    /** What an earlier plan bought tells nothing of the next one. */
    private static void planAnew() {
        TrampOffice x = sea(60, 5, 5, 5);
        route(x, 0, 1, 2);
        bunkered(x, "sold at both", 100, 10, 10);
        x.price(1, 0);
        bunkered(x, "none sold at the second any more", 100, 20, 0);
        x.price(1, 6);
        bunkered(x, "dearer at the second", 100, 20, 0);
        x.price(0, 0);
        bunkered(x, "none sold at the first any more", NONE);
        due.is(NONE, x.bought(0, 0), "18: no way to buy, though there was one");
        due.is(NONE, x.bought(0, 1), "18: no way to buy, though there was one");
        x.price(0, 7);
        due.is(10, x.bought(0, 0), "18: without a call of bunker");
        due.is(10, x.bought(0, 1), "18: without a call of bunker");
        x.way(0, 1, 160);
        due.is(20, x.bought(0, 0), "18: a longer way");
        x.ship(2, 100, 10, 20);
        due.is(NONE, x.bought(1, 0), "18: another ship's bunkers are too small");
        due.is(20, x.bought(0, 0), "18: the first ship again");
        x.speed(0, 6);
        // 27 hours of 22 by 24: 24.75; 14 hours: 12.8
        due.is(25, x.bought(0, 0), "18: at another speed");
        due.is(13, x.bought(0, 1), "18: at another speed");
        x.clear();
        due.is(NONE, x.bought(0, 0), "18: the route is empty");
        x.go(0);
        due.is(NONE, x.bought(0, 0), "18: a route of one");
        x.go(1);
        due.is(25, x.bought(0, 0), "18: a route of two");
        due.is(NONE, x.bought(0, 1), "18: at the last of two");
    }

    /** At the second port it bought for the third one's way too, till none is sold there. */
    private static void noneSoldAnyMore() {
        TrampOffice x = sea(60, 50, 1, 9, 9);
        route(x, 0, 1, 2, 3);
        bunkered(x, "cheap at the second", 500 + 20, 10, 20, 0);
        x.price(1, 0);
        bunkered(x, "none sold at the second any more", 1000 + 90, 20, 0, 10);
        x.price(2, 0);
        bunkered(x, "none sold at the third either", 1500, 30, 0, 0);
    }

    /** The ship's place, hour and hold do not matter; it begins at the route's first port. */
    private static void whereverItIs() {
        TrampOffice x = sea(60, 5, 4, 3);
        route(x, 0, 1);
        x.free(0, 2, 9999);
        bunkered(x, "a ship that is elsewhere", 50, 10);
        due.is(2, x.shipTold(0, 0), "17: the ship stays");
        due.is(9999, x.shipTold(0, 1), "17: the ship stays");
    }

    private static void burnsOne() {
        TrampOffice x = new TrampOffice();
        x.port(10, 1);
        x.port(10, 0);
        x.way(0, 1, 1);
        x.ship(0, 100, 10, 1);
        route(x, 0, 1);
        bunkered(x, "1 ton", 1, 1);
        route(x, 1, 0);
        bunkered(x, "1 ton, none sold", NONE);
        due.is(NONE, x.bought(0, 0), "18: 1 ton, none sold");
        route(x, 0, 1, 0, 1, 0, 1);
        bunkered(x, "1 ton each way", 5, 2, 0, 2, 0, 1);
    }

    /** Bunkers of 10, the least: just the way, or one ton too little; then on what is left. */
    private static void neverMoreThanBunkers() {
        TrampOffice x = sea(10, 9, 1, 9, 1);
        route(x, 0, 1, 2, 3);
        bunkered(x, "10 each way, bunkers 10", 190, 10, 10, 10);
        x.way(1, 2, 81);
        bunkered(x, "12 a way, bunkers 10", NONE);
        TrampOffice far = sea(60, 1, 9, 9);
        far.way(1, 2, 481);
        route(far, 0, 1, 2);
        bunkered(far, "62 on the second way, bunkers 60", NONE);
        due.is(NONE, far.bought(0, 0), "18: 62 on the second way");
        TrampOffice y = sea(11, 1, 9, 9);
        route(y, 0, 1, 2);
        bunkered(y, "bunkers 11", 11 + 81, 11, 9);
        TrampOffice z = sea(19, 1, 9, 9);
        route(z, 0, 1, 2);
        bunkered(z, "bunkers 19", 19 + 9, 19, 1);
        z.price(1, 0);
        bunkered(z, "bunkers 19, none sold at the second", NONE);
        TrampOffice w = sea(20, 1, 9, 9);
        route(w, 0, 1, 2);
        bunkered(w, "bunkers 20", 20, 20, 0);
        w.price(1, 0);
        bunkered(w, "bunkers 20, none sold at the second", 20, 20, 0);
        // it comes with 10, buys till it is full, and that is for the last two ways
        TrampOffice v = sea(20, 1, 2, 9, 9);
        route(v, 0, 1, 2, 3);
        bunkered(v, "full at the second again", 20 + 20, 20, 10, 0);
    }

    private static void firstPortsFirst() {
        TrampOffice x = sea(60, 4, 4, 9, 9, 9);
        route(x, 0, 1, 2, 3);
        // 30 are needed: as few as can be at the first, the rest at the second
        bunkered(x, "like costs at the first two", 120, 10, 20, 0);
        x.price(2, 4);
        bunkered(x, "like costs at three", 120, 10, 10, 10);
        x.price(1, 5);
        bunkered(x, "like costs at the first and the third", 120, 20, 0, 10);
        x.price(0, 5);
        bunkered(x, "dear at the first two", 140, 10, 10, 10);
        x.price(2, 5);
        x.price(0, 4);
        bunkered(x, "cheap at the first alone", 120, 30, 0, 0);
        x.price(0, 99);
        x.price(1, 99);
        x.price(2, 99);
        bunkered(x, "all at 99", 2970, 10, 10, 10);
    }

    private static void whichFirst() {
        TrampOffice x = new TrampOffice();
        due.is(BAD, x.go(0), "15: a new object has no ports");
        due.is(0, x.clear(), "16: a new object");
        due.is(BAD, x.bunker(0), "17: a new object, BAD ahead of NONE");
        due.is(BAD, x.bought(0, 0), "18: a new object, BAD ahead of NONE");
        TrampOffice y = sea(60, 1, 2);
        route(y, 0, 1);
        due.is(BAD, y.bought(1, 5), "18: BAD ahead of NONE for i");
        due.is(BAD, y.bought(1, -1), "18: BAD ahead of NONE for i");
        due.is(BAD, y.bunker(1), "17: no ship 1");
        due.is(2, y.count(6), "15: the route stays");
        due.is(10, y.bunker(0), "17: the route stays");
    }

    public static void main(String[] args) {
        planAnew();
        noneSoldAnyMore();
        whereverItIs();
        burnsOne();
        neverMoreThanBunkers();
        firstPortsFirst();
        whichFirst();
        go();
        none();
        least();
        likeCosts();
        most();
        due.end();
    }
}
