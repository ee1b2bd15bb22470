/** States that are made again and again by the same calls: a new object, one with some of each thing, one that is full. */
enum States {
    NEW, SOME, FULL;

    Calls of(Calls x) {
        switch (this) {
            case SOME: some(x); break;
            case FULL: full(x); break;
            default: break;
        }
        return x;
    }

    private static void sheet(Calls x, int sheet, int sort, int... items) {
        x.call("sheet", sheet, sort, items.length);
        for (int i = 0; i < items.length; i++) {
            x.call("cell", sheet, i, items[i]);
        }
    }

    private static void text(Calls x, String text) {
        x.feed(text);
        x.call("text");
    }

    /** Each thing is there and has room for more; one way lacks, one port sells no coal, one offer is taken. */
    private static void some(Calls x) {
        x.call("port", 100, 10);
        x.call("port", 50, 5);
        x.call("port", 20, 0);
        x.call("port", 10, 7);
        x.call("way", 0, 1, 100);
        x.call("way", 1, 2, 60);
        x.call("way", 1, 3, 250);
        x.call("ship", 0, 3000, 40, 20);
        x.call("ship", 1, 500, 15, 5);
        x.call("offer", 0, 1, 1000, 3, 0, 9999);
        x.call("offer", 1, 0, 800, 4, 20, 300);
        x.call("offer", 1, 3, 3000, 1, 0, 50);
        x.call("offer", 3, 1, 100, 9, 0, 9999);
        x.call("fix", 0, 3);
        x.call("fix", 0, 0);
        x.call("free", 0, 0, 7);
        x.call("speed", 1, 8);
        x.call("go", 0);
        x.call("go", 1);
        x.call("go", 3);
        for (int sort = 0; sort < 6; sort++) {
            x.call("log", 0, sort, 5 + sort);
            x.call("log", 1, 5 - sort, 3);
        }
        sheet(x, 0, 0, 3, -1, 259);
        sheet(x, 1, 1, 65537, 256);
        sheet(x, 3, 2);
        text(x, "lay over < 3 or clock = 5;off weekday;");
        text(x, "lay sort < 3;off hour = 4;");
        x.call("charter", 0, 0, 2, 9, 0, 700005003L);
        x.call("charter", 5, 0, 10, 19, 1, 1000007002L);
        x.call("charter", 5, 0, 20, 29, 2, 2000006001L);
        x.call("charter", 5, 1, 0, 5, 1, 3000004009L);
        x.call("charter", 2, 1, 3, 40, 2, 4000003000L);
        x.call("lift", 2, true);
        x.call("lift", 3, false);
        x.call("charter", 3, 1, 0, 2, 0, 5000002007L);
        x.feed("lay not sort ;o");
    }

    /** No room for anything more: not on the tape, on the route, in the log of ship 0; one hour is left in that of ship 1. */
    private static void full(Calls x) {
        for (int i = 0; i < 8; i++) {
            x.call("port", 10 + 141 * i, i == 5 ? 0 : 14 * i + 1);
        }
        for (int a = 0; a < 8; a++) {
            for (int b = a + 1; b < 8; b++) {
                if (a + b != 13) x.call("way", a, b, 40 + 17 * a + 9 * b);
            }
        }
        for (int i = 0; i < 5; i++) {
            x.call("ship", i, 100 + 2400 * i, 10 + 240 * i, 1 + 12 * i);
        }
        for (int i = 0; i < 10; i++) {
            x.call("offer", i % 7, (i + 1 + i / 4) % 8, 90 + 900 * i, 9 - i, 10 * i, 9000 + 100 * i);
        }
        x.call("fix", 0, 0);
        for (int i = 0; i < 6; i++) {
            x.call("go", i % 2 == 0 ? i + 1 : i);
        }
        for (int i = 0; i < 4; i++) {
            x.call("log", 0, i, 500);
            x.call("log", 1, i + 1, i == 3 ? 499 : 500);
        }
        x.call("log", 2, 1, 30);
        for (int i = 0; i < 5; i++) {
            text(x, "lay sort = " + i + ";off " + i + " < clock;");
        }
        for (int i = 0; i < 12; i++) {
            x.call("charter", i % 6, i % 3, 100 * i, i < 9 ? 100 * i + 30 : 9999, i % 6, 1000001000L * i + i);
        }
        x.call("lift", 5, true);
        x.call("lift", 11, false);
        sheet(x, 0, 0, 6, 1);
        sheet(x, 1, 1, 2, -3);
        sheet(x, 2, 2, 5, 4);
        x.call("sheet", 3, 2, 40);
        for (int i = 0; i < 20; i++) {
            x.call("feed", 8, 0x3120_3120_3120_3120L);
        }
    }
}
