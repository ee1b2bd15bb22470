import java.util.ArrayList;
import java.util.List;

/**
 * What can be told of an object, one part of it at a time: telling it needs up to some 300 calls and may change the
 * object, so each part wants one of its own.
 */
enum Print {
    TOLD, OFFERS, WAYS, LOGS, TAPE, SHEETS;

    private static final int[] HOURS = {0, 1, 2, 3, 5, 9, 10, 19, 20, 29, 30, 44, 45, 130, 131, 499, 1999, 9999};

    List<Long> of(Calls x) {
        List<Long> told = new ArrayList<>();
        for (int what = 0; what < 7; what++) {
            told.add(x.call("count", what));
        }
        switch (this) {
            case TOLD: told(x, told); break;
            case OFFERS: offers(x, told); break;
            case WAYS: ways(x, told); break;
            case LOGS: logs(x, told); break;
            case TAPE: tape(x, told); break;
            default: sheets(x, told); break;
        }
        return told;
    }

    private static void told(Calls x, List<Long> told) {
        for (int s = 0; s < x.size(1); s++) {
            for (int what = 0; what < 7; what++) {
                told.add(x.call("shipTold", s, what));
            }
            told.add(x.call("owners", s));
            for (int hour : HOURS) {
                told.add(x.call("account", s, hour));
            }
        }
        for (int c = 0; c < x.size(4); c++) {
            for (int what = 0; what < 9; what++) {
                told.add(x.call("charterTold", c, what));
            }
            told.add(x.call("pays", c));
        }
    }

    /** Where each offer can be reached from, and what it earns then: by that its ports, tons, rate, hours are told. */
    private static void offers(Calls x, List<Long> told) {
        for (int i = 0; i < 3 && x.size(1) > 0; i++) {
            told.add(x.call("best", 0, 3, i));
            told.add(x.call("chain", 0, 3, i));
        }
        int ship = x.size(1) - 1;
        for (int p = 0; p < x.size(0); p++) {
            x.call("free", ship, p, 0);
            for (int o = 0; o < x.size(2); o++) {
                told.add(x.call("why", ship, o));
                told.add(x.call("estimate", ship, o, 1));
                told.add(x.call("estimate", ship, o, 3));
            }
        }
    }

    private static void ways(Calls x, List<Long> told) {
        for (int s = 0; s < x.size(1); s++) {
            told.add(x.call("bunker", s));
            for (int i = 0; i < 6; i++) {
                told.add(x.call("bought", s, i));
            }
        }
        for (int p = x.size(0) - 1; p >= 0; p--) {
            told.add(x.call("go", p));
            told.add(x.call("price", p, 3));
            for (int q = 0; q < p; q++) {
                told.add(x.call("way", p, q, 2));
            }
        }
    }

    private static void logs(Calls x, List<Long> told) {
        for (int s = 0; s < x.size(1); s++) {
            for (int hour : HOURS) {
                told.add(x.call("sort", s, hour));
            }
        }
        for (int c = 0; c < x.size(4); c++) {
            int from = (int) x.call("charterTold", c, 2);
            for (int k = 0; k < 10; k++) {
                told.add(x.call("counts", c, from + k));
            }
        }
    }

    /** The tape is seen by the text that it is with some bytes more, and that one by how hours count. */
    private static void tape(Calls x, List<Long> told) {
        x.feed("ff clock = 7;");
        long text = x.call("text");
        told.add(text);
        long charter = x.call("charter", 1, 0, 30, 44, (int) text, 0L);
        for (int hour = 30; hour < 45; hour++) {
            told.add(x.call("counts", (int) charter, hour));
        }
        for (int what = 0; what < 7; what++) {
            told.add(x.call("count", what));
        }
    }

    private static void sheets(Calls x, List<Long> told) {
        x.call("port", 10, 0);
        if (x.size(1) == 0) x.call("ship", 0, 100, 10, 1);
        int ship = x.size(1) - 1;
        for (int sheet = 0; sheet < 4; sheet++) {
            for (int sort = 0; sort < 3; sort++) {
                boolean inside = x.call("lay", ship, sheet, sort, 0, 0) >= 0;
                told.add(inside ? 1L : 0L);
                for (int i = 0; inside && i < 41; i++) {
                    long many = x.call("lay", ship, sheet, sort, i, 1);
                    told.add(many);
                    inside = many != -12;
                    if (many > 0) told.add(x.call("sort", ship, (int) many - 1));
                }
            }
            told.add(x.call("cell", sheet, 0, 4));
        }
    }
}
