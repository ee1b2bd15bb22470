/** Promises 25 to 31: charters, what they are told to be, what they pay, how hours count, the account. */
public final class ChartersTest {
    private static final int NONE = TrampOffice.NONE, BAD = TrampOffice.BAD, STATE = TrampOffice.STATE, FULL = TrampOffice.FULL;
    private static final long NO = TrampOffice.NO;
    private static final int[] FAR = {Integer.MIN_VALUE, -2147483647, -1, Integer.MAX_VALUE};
    private static final int VOYAGE = 0, TIME = 1, TRIP = 2, CONSEC = 3, BALLAST = 4, SUBJECT = 5;
    private static final Due due = new Due("ChartersTest");

    private static TrampOffice fleet() {
        TrampOffice x = new TrampOffice();
        x.port(10, 1);
        x.ship(0, 100, 10, 1);
        x.ship(0, 100, 10, 1);
        return x;
    }

    private static long amounts(int amount, int rate, int free) {
        return 1000000L * amount + 1000L * rate + free;
    }

    private static void charter() {
        TrampOffice x = fleet();
        due.is(BAD, x.charter(-1, 0, 0, 0, 0, 0), "25: kind -1");
        due.is(BAD, x.charter(6, 0, 0, 0, 0, 0), "25: kind 6");
        due.is(BAD, x.charter(0, 2, 0, 0, 0, 0), "25: no ship 2");
        due.is(BAD, x.charter(0, 0, -1, 0, 0, 0), "25: from -1");
        due.is(BAD, x.charter(0, 0, -2, -1, 0, 0), "25: to -1");
        due.is(BAD, x.charter(0, 0, 0, 10000, 0, 0), "25: to 10000");
        due.is(BAD, x.charter(0, 0, 10000, 10000, 0, 0), "25: from 10000");
        due.is(BAD, x.charter(0, 0, 1, 0, 0, 0), "25: from above to");
        due.is(BAD, x.charter(0, 0, 0, 0, 1, 0), "25: no text 1");
        due.is(BAD, x.charter(0, 0, 0, 0, -1, 0), "25: no text -1");
        due.is(BAD, x.charter(0, 0, 0, 0, 0, -1), "25: amounts -1");
        due.is(BAD, x.charter(0, 0, 0, 0, 0, 100000000000L), "25: AMOUNT 100000");
        due.is(BAD, x.charter(0, 0, 0, 0, 0, Long.MAX_VALUE), "25: amounts far");
        due.is(BAD, x.charter(0, 0, 0, 0, 0, Long.MIN_VALUE), "25: amounts far below 0");
        for (int far : FAR) {
            due.is(BAD, x.charter(far, 0, 0, 0, 0, 0), "25: kind " + far);
            due.is(BAD, x.charter(0, far, 0, 0, 0, 0), "25: ship " + far);
            due.is(BAD, x.charter(0, 0, far, 0, 0, 0), "25: from " + far);
            due.is(BAD, x.charter(0, 0, 0, far, 0, 0), "25: to " + far);
            due.is(BAD, x.charter(0, 0, 0, 0, far, 0), "25: text " + far);
        }
        due.is(0, x.count(4), "25: a refusal changes nothing");
        due.is(0, x.charter(0, 0, 0, 0, 0, 0), "25: of the first hour");
        due.is(1, x.charter(5, 0, 9999, 9999, 0, 99999999999L), "25: of the last hour, all at most");
        due.is(2, x.charter(0, 0, 10, 20, 0, 0), "25: of eleven");
        due.is(STATE, x.charter(0, 0, 20, 30, 0, 0), "25: hour 20 in common");
        due.is(STATE, x.charter(0, 0, 5, 10, 0, 0), "25: hour 10 in common");
        due.is(STATE, x.charter(0, 0, 12, 13, 0, 0), "25: within another");
        due.is(STATE, x.charter(0, 0, 5, 25, 0, 0), "25: around another");
        due.is(STATE, x.charter(4, 0, 10, 20, 0, 0), "25: just another");
        due.is(STATE, x.charter(0, 0, 0, 0, 0, 0), "25: hour 0 in common");
        due.is(STATE, x.charter(0, 0, 9000, 9999, 0, 0), "25: hour 9999, a subject, in common");
        due.is(BAD, x.charter(0, 0, 20, 30, 1, 0), "25: BAD ahead of STATE");
        due.is(3, x.charter(0, 0, 21, 30, 0, 0), "25: right behind");
        due.is(4, x.charter(0, 0, 9, 9, 0, 0), "25: right ahead");
        due.is(5, x.charter(0, 1, 10, 20, 0, 0), "25: of another ship");
        for (int i = 6; i < 12; i++) {
            due.is(i, x.charter(i % 6, 1, 100 + i, 100 + i, 0, 0), "25: charter " + i);
        }
        due.is(STATE, x.charter(0, 1, 10, 10, 0, 0), "25: STATE ahead of FULL");
        due.is(FULL, x.charter(0, 1, 50, 50, 0, 0), "25: a thirteenth");
        due.is(BAD, x.charter(0, 1, 50, 50, 0, -1), "25: BAD ahead of FULL");
        due.is(12, x.count(4), "25: twelve");
    }

    private static void lift() {
        TrampOffice x = fleet();
        for (int kind = 0; kind < 5; kind++) {
            x.charter(kind, 0, kind, kind, 0, 0);
            due.is(BAD, x.lift(kind, true), "26: kind " + kind);
            due.is(BAD, x.lift(kind, false), "26: kind " + kind);
            due.is(0, x.charterTold(kind, 8), "26: kind " + kind + " stays");
        }
        x.charter(5, 0, 5, 5, 0, 0);
        x.charter(5, 0, 6, 6, 0, 0);
        due.is(0, x.charterTold(5, 8), "27: neither");
        due.is(1, x.lift(5, true), "26: lifted");
        due.is(1, x.charterTold(5, 8), "27: lifted");
        due.is(STATE, x.lift(5, true), "26: lifted twice");
        due.is(STATE, x.lift(5, false), "26: it is lifted");
        due.is(1, x.charterTold(5, 8), "27: still lifted");
        due.is(0, x.charterTold(6, 8), "27: the other one stays");
        due.is(1, x.lift(6, false), "26: fell");
        due.is(2, x.charterTold(6, 8), "27: fell");
        due.is(STATE, x.lift(6, true), "26: it fell");
        due.is(STATE, x.lift(6, false), "26: fell twice");
        due.is(2, x.charterTold(6, 8), "27: still fell");
        due.is(BAD, x.lift(7, true), "26: no charter 7");
        for (int far : FAR) {
            due.is(BAD, x.lift(far, true), "26: charter " + far);
        }
    }

    private static void fell() {
        TrampOffice x = fleet();
        x.log(0, 1, 30);
        x.charter(5, 0, 0, 9, 0, amounts(7, 3, 0));
        x.charter(5, 0, 10, 19, 0, amounts(7, 3, 0));
        due.is(10, x.owners(0), "31: subjects have their hours");
        due.is(10, x.charterTold(1, 5), "27: lay hours of a subject");
        due.is(0, x.pays(1), "28: 0 till it is lifted");
        due.is(1, x.account(0, 10), "30: of a subject");
        x.lift(1, false);
        due.is(20, x.owners(0), "31: one that fell has none");
        due.is(NONE, x.account(0, 10), "30: one that fell has none");
        due.is(NONE, x.counts(1, 10), "29: one that fell has none");
        due.is(0, x.pays(1), "28: one that fell");
        int[] told = {5, 0, 10, 19, 0, 0, 0, 0, 2};
        for (int what = 0; what < 9; what++) {
            due.is(told[what], x.charterTold(1, what), "27: one that fell told " + what);
        }
        due.is(STATE, x.charter(0, 0, 9, 12, 0, 0), "25: in common with the one that has not fallen");
        due.is(2, x.charter(0, 0, 15, 25, 0, amounts(7, 3, 0)), "25: over one that fell");
        due.is(2, x.account(0, 15), "30: the one behind it");
        due.is(NONE, x.account(0, 14), "30: of no one");
        due.is(STATE, x.charter(0, 0, 10, 15, 0, 0), "25: in common with the new one");
        due.is(30 - 10 - 11, x.owners(0), "31: two charters");
        x.lift(0, true);
        due.is(37, x.pays(0), "28: lifted");
        due.is(10, x.charterTold(0, 5), "27: lifted ones have their hours");
        due.is(0, x.account(0, 9), "30: lifted ones have their hours");
    }

    private static void told() {
        TrampOffice x = fleet();
        int[] sorts = {0, 1, 2, 3, 4, 5};
        for (int sort : sorts) {
            x.log(1, sort, 10);
        }
        TextsTest.feed(x, "lay sort = 3;off sort < 2;");
        x.text();
        x.charter(3, 1, 5, 44, 1, 0);
        int[] told = {3, 1, 5, 44, 1, 10, 15, 15, 0};
        for (int what = 0; what < 9; what++) {
            due.is(told[what], x.charterTold(0, what), "27: what " + what);
        }
        due.is(BAD, x.charterTold(0, 9), "27: what 9");
        due.is(BAD, x.charterTold(1, 0), "27: no charter 1");
        for (int far : FAR) {
            due.is(BAD, x.charterTold(far, 0), "27: charter " + far);
            due.is(BAD, x.charterTold(0, far), "27: what " + far);
        }
        x.charter(0, 1, 55, 9999, 0, 0);
        due.is(5, x.charterTold(1, 7), "27: of its hours that the log has");
        due.is(55, x.charterTold(1, 2), "27: from");
        due.is(9999, x.charterTold(1, 3), "27: to");
        x.log(1, 1, 3);
        due.is(3, x.charterTold(1, 5), "27: three more");
        due.is(5, x.charterTold(1, 7), "27: as they were");
        x.right(1, 56, 4);
        due.is(1, x.charterTold(1, 6), "27: put right");
        x.charter(0, 0, 0, 10, 0, 0);
        for (int what = 5; what < 8; what++) {
            due.is(0, x.charterTold(2, what), "27: the log has none, " + what);
        }
    }

    /** A charter of a kind of ten lay, three off and four other hours. */
    private static void pays(long want, int kind, long amounts) {
        TrampOffice x = fleet();
        x.log(0, 5, 5);
        x.log(0, 1, 6);
        x.log(0, 4, 3);
        x.log(0, 2, 4);
        x.log(0, 0, 9);
        x.charter(kind, 0, 5, 21, 0, amounts);
        due.is(want, x.pays(0), "28: kind " + kind + " of " + amounts);
        due.is(10, x.charterTold(0, 5), "28: lay");
        due.is(3, x.charterTold(0, 6), "28: off");
        due.is(4, x.charterTold(0, 7), "28: other");
        if (kind == SUBJECT) {
            x.lift(0, true);
            due.is(amounts / 1000000 + 7 * 5, x.pays(0), "28: a subject that is lifted");
        }
    }

    private static void pay() {
        pays(500 + 7 * 7, VOYAGE, amounts(500, 7, 3));
        pays(500, VOYAGE, amounts(500, 7, 10));
        pays(507, VOYAGE, amounts(500, 7, 9));
        pays(500 - 3, VOYAGE, amounts(500, 7, 11));
        pays(500 - 5 * 3, VOYAGE, amounts(500, 7, 15));
        pays(500 - 5 * 4, VOYAGE, amounts(500, 8, 15));
        pays(500, VOYAGE, amounts(500, 1, 999));
        pays(-989L * 499, VOYAGE, amounts(0, 999, 999));
        pays(99999 + 9990, VOYAGE, amounts(99999, 999, 0));
        pays(14 * 7, TIME, amounts(500, 7, 3));
        pays(14 * 7, TIME, amounts(500, 7, 15));
        pays(0, TIME, amounts(99999, 0, 999));
        pays(14 * 7 + 500, TRIP, amounts(500, 7, 3));
        pays(14 * 999 + 99999, TRIP, amounts(99999, 999, 999));
        pays(2 * (500 + 7 * 7), CONSEC, amounts(500, 7, 3));
        pays(2 * (500 - 5 * 3), CONSEC, amounts(500, 7, 15));
        pays(0, BALLAST, amounts(500, 7, 3));
        pays(0, BALLAST, amounts(500, 7, 15));
        pays(0, SUBJECT, amounts(500, 7, 5));
        pays(0, SUBJECT, amounts(99999, 7, 5));

        TrampOffice x = fleet();
        x.charter(VOYAGE, 0, 0, 9999, 0, amounts(3, 10, 4));
        due.is(3 - 4 * 5, x.pays(0), "28: no hour yet");
        x.log(0, 1, 500);
        x.log(0, 1, 500);
        x.log(0, 1, 500);
        x.log(0, 1, 500);
        due.is(3 + 1996 * 10, x.pays(0), "28: 2000 hours");
        due.is(NO, x.pays(1), "28: no charter 1");
        for (int far : FAR) {
            due.is(NO, x.pays(far), "28: charter " + far);
        }
    }

    private static void counts() {
        TrampOffice x = fleet();
        x.log(0, 0, 3);
        x.log(0, 1, 3);
        x.log(0, 4, 3);
        x.charter(0, 0, 2, 10, 0, 0);
        x.charter(0, 0, 11, 20, 0, 0);
        int[] want = {NONE, NONE, 2, 0, 0, 0, 1, 1, 1, NONE, NONE, NONE};
        for (int h = 0; h < 12; h++) {
            due.is(want[h], x.counts(0, h), "29: hour " + h);
            due.is(NONE, x.counts(1, h), "29: hour " + h + " of the other");
        }
        due.is(NONE, x.counts(0, 10000), "29: hour 10000");
        due.is(BAD, x.counts(2, 3), "29: no charter 2");
        due.is(BAD, x.counts(2, -1), "29: no charter 2, no hour");
        for (int far : FAR) {
            due.is(BAD, x.counts(far, 3), "29: charter " + far);
            due.is(NONE, x.counts(0, far), "29: hour " + far);
        }
        x.log(0, 2, 1);
        due.is(0, x.counts(0, 9), "29: the log has it now");
        due.is(NONE, x.counts(0, 10), "29: the log lacks it still");
        x.charter(0, 1, 0, 5, 0, 0);
        due.is(NONE, x.counts(2, 0), "29: another ship's log");
    }

    private static void account() {
        TrampOffice x = fleet();
        due.is(NONE, x.account(0, 0), "30: no charter");
        due.is(0, x.owners(0), "31: no hour");
        x.charter(0, 0, 3, 5, 0, 0);
        x.charter(4, 1, 0, 9999, 0, 0);
        x.charter(5, 0, 7, 7, 0, 0);
        int[] want = {NONE, NONE, NONE, 0, 0, 0, NONE, 2, NONE};
        for (int h = 0; h < 9; h++) {
            due.is(want[h], x.account(0, h), "30: hour " + h);
            due.is(1, x.account(1, h), "30: hour " + h + " of the other");
        }
        due.is(1, x.account(1, 9999), "30: hour 9999");
        due.is(NONE, x.account(0, 9999), "30: hour 9999 of the owner");
        due.is(BAD, x.account(0, 10000), "30: hour 10000");
        due.is(BAD, x.account(2, 0), "30: no ship 2");
        for (int far : FAR) {
            due.is(BAD, x.account(far, 0), "30: ship " + far);
            due.is(BAD, x.account(0, far), "30: hour " + far);
        }
        int[] owners = {0, 1, 2, 3, 3, 3, 3, 4, 4, 5};
        for (int n = 0; n < 10; n++) {
            due.is(owners[n], x.owners(0), "31: of " + n + " hours");
            x.log(0, 0, 1);
            x.log(1, 0, 1);
            due.is(0, x.owners(1), "31: the other has none");
        }
        due.is(BAD, x.owners(2), "31: no ship 2");
        for (int far : FAR) {
            due.is(BAD, x.owners(far), "31: ship " + far);
        }
    }

    /** A log that goes on behind a charter: the first hour, the last one, and one outside on both sides. */
    private static void countsOutside() {
        TrampOffice x = fleet();
        x.log(0, 1, 30);
        x.charter(0, 0, 10, 19, 0, 0);
        x.charter(1, 0, 25, 25, 0, 0);
        int[] hours = {0, 9, 10, 19, 20, 24, 25, 26, 29, 30};
        for (int hour : hours) {
            due.is(hour >= 10 && hour <= 19 ? 0 : NONE, x.counts(0, hour), "29: hour " + hour + " of 10 .. 19");
            due.is(hour == 25 ? 0 : NONE, x.counts(1, hour), "29: hour " + hour + " of 25 .. 25");
            due.is(hour >= 10 && hour <= 19 ? 0 : hour == 25 ? 1 : NONE, x.account(0, hour), "30: hour " + hour);
        }
        due.is(10, x.charterTold(0, 5), "27: lay hours of 10 .. 19");
        due.is(1, x.charterTold(1, 5), "27: lay hours of 25 .. 25");
        due.is(30 - 11, x.owners(0), "31: the rest");
        x.charter(5, 0, 20, 22, 0, 0);
        due.is(0, x.counts(2, 20), "29: a subject not yet lifted");
        x.lift(2, true);
        due.is(0, x.counts(2, 22), "29: a subject that is lifted");
        x.charter(5, 0, 0, 9999 - 9990, 0, 0);
        x.lift(3, false);
        due.is(NONE, x.counts(3, 0), "29: one that fell");
        due.is(NONE, x.counts(3, 9), "29: one that fell");
    }

    /** The first and the last hour that there are, and the last one that a log has. */
    private static void edgesOfTime() {
        TrampOffice x = fleet();
        for (int i = 0; i < 4; i++) {
            x.log(0, i == 3 ? 4 : 0, 500);
        }
        due.is(0, x.charter(0, 0, 0, 0, 0, 0), "25: hour 0 alone");
        due.is(1, x.charter(0, 0, 1999, 1999, 0, 0), "25: hour 1999 alone");
        due.is(2, x.charter(0, 0, 2000, 9999, 0, 0), "25: behind the log till 9999");
        due.is(2, x.counts(0, 0), "29: hour 0");
        due.is(1, x.counts(1, 1999), "29: hour 1999");
        due.is(NONE, x.counts(2, 2000), "29: the log has no hour 2000");
        due.is(NONE, x.counts(2, 9999), "29: the log has no hour 9999");
        due.is(2, x.account(0, 2000), "30: hour 2000");
        due.is(2, x.account(0, 9999), "30: hour 9999");
        due.is(NONE, x.account(0, 1998), "30: hour 1998");
        due.is(1998, x.owners(0), "31: all but two");
        for (int what = 5; what < 8; what++) {
            due.is(0, x.charterTold(2, what), "27: nothing logged of 2000 .. 9999, " + what);
        }
        due.is(3, x.charter(1, 0, 1, 1998, 0, amounts(0, 999, 0)), "25: between, all but the edges");
        due.is(0, x.owners(0), "31: none");
        due.is(999L * 1499, x.pays(3), "28: 1499 hours that are not OFF");
        due.is(499, x.charterTold(3, 6), "27: 499 hours OFF");
        due.is(STATE, x.charter(0, 0, 0, 9999, 0, 0), "25: all hours");
        due.is(4, x.charter(0, 1, 0, 9999, 0, 0), "25: all hours of the other ship");
        due.is(STATE, x.charter(0, 1, 9999, 9999, 0, 0), "25: hour 9999 of it");
        due.is(STATE, x.charter(0, 1, 0, 0, 0, 0), "25: hour 0 of it");
    }

    private static void mostAndLeast() {
        int[] kinds = {VOYAGE, TIME, TRIP, CONSEC, BALLAST, SUBJECT};
        // 2000 hours LAY at RATE 999, AMOUNT 99999, FREE 0
        long[] most = {99999 + 1998000, 1998000, 99999 + 1998000, 2 * (99999 + 1998000), 0, 99999 + 1998000};
        // none LAY, 2000 OFF; AMOUNT 0, RATE 999, FREE 999
        long[] least = {-999 * 499, 0, 0, -2 * 999 * 499, 0, -999 * 499};
        for (int kind : kinds) {
            for (int sort = 1; sort <= 4; sort += 3) {
                TrampOffice x = fleet();
                for (int i = 0; i < 4; i++) {
                    x.log(0, sort, 500);
                }
                x.charter(kind, 0, 0, 9999, 0, sort == 1 ? amounts(99999, 999, 0) : amounts(0, 999, 999));
                if (kind == SUBJECT) {
                    due.is(0, x.pays(0), "28: not lifted");
                    x.lift(0, true);
                }
                due.is(sort == 1 ? most[kind] : least[kind], x.pays(0), "28: kind " + kind + ", all hours of sort " + sort);
                due.is(sort == 1 ? 2000 : 0, x.charterTold(0, 5), "27: lay hours");
                due.is(sort == 1 ? 0 : 2000, x.charterTold(0, 6), "27: off hours");
            }
        }
        // a VOYAGE of 1001 LAY hours, FREE 999: two beyond
        TrampOffice y = fleet();
        y.log(0, 1, 500);
        y.log(0, 1, 499);
        y.charter(0, 0, 0, 9999, 0, amounts(5, 9, 999));
        due.is(5, y.pays(0), "28: 999 of 999 FREE");
        y.right(0, 500, 0);
        due.is(5 - 4, y.pays(0), "28: 998 of 999 FREE");
        y.right(0, 500, 2);
        y.log(0, 2, 2);
        due.is(5 + 18, y.pays(0), "28: 1001 of 999 FREE");
    }

    /** amounts is taken apart at 1000 and 1000000: each part at its least and its most. */
    private static void amountsApart() {
        int[] amounts = {0, 1, 99998, 99999};
        int[] rates = {0, 1, 998, 999};
        int[] frees = {0, 1, 998, 999};
        for (int amount : amounts) {
            for (int rate : rates) {
                TrampOffice x = fleet();
                x.log(0, 1, 2);
                x.charter(TRIP, 0, 0, 0, 0, amounts(amount, rate, 999));
                due.is(amount + rate, x.pays(0), "25: AMOUNT " + amount + ", RATE " + rate + " of a TRIP");
                for (int free : frees) {
                    x.charter(VOYAGE, 1, 10 + free, 10 + free, 0, amounts(amount, rate, free));
                    due.is(amount - (long) free * (rate / 2), x.pays(x.count(4) - 1), "25: AMOUNT " + amount + ", RATE " + rate + ", FREE " + free);
                }
            }
        }
    }

    /** One that fell is still one of twelve, but has no hours. */
    private static void fullWithFallen() {
        TrampOffice x = fleet();
        for (int i = 0; i < 12; i++) {
            due.is(i, x.charter(5, 0, 0, 9999, 0, 0), "25: charter " + i + " over those that fell");
            due.is(STATE, x.charter(0, 0, 0, 0, 0, 0), "25: STATE, with or without room");
            due.is(1, x.lift(i, false), "26: it fell");
        }
        due.is(FULL, x.charter(0, 0, 0, 0, 0, 0), "25: FULL, though all fell");
        due.is(12, x.count(4), "25: twelve");
        due.is(NONE, x.account(0, 0), "30: the owner's");
        due.is(5, x.charterTold(11, 0), "27: the last one's KIND");
        due.is(BAD, x.charterTold(12, 0), "27: no charter 12");
        due.is(BAD, x.lift(12, true), "26: no charter 12");
        due.is(NO, x.pays(12), "28: no charter 12");
        due.is(BAD, x.counts(12, 0), "29: no charter 12");
    }

    private static void whichFirst() {
        TrampOffice x = new TrampOffice();
        due.is(BAD, x.charter(0, 0, 0, 0, 0, 0), "25: a new object has no ships");
        due.is(BAD, x.lift(0, true), "26: a new object has no charters");
        due.is(BAD, x.charterTold(0, 0), "27: a new object");
        due.is(NO, x.pays(0), "28: a new object");
        due.is(BAD, x.counts(0, 0), "29: a new object");
        due.is(BAD, x.account(0, 0), "30: a new object");
        due.is(BAD, x.owners(0), "31: a new object");
        TrampOffice y = fleet();
        y.charter(5, 0, 0, 9, 0, 0);
        y.charter(0, 0, 10, 19, 0, 0);
        // each wrong number ahead of an hour in common
        due.is(BAD, y.charter(6, 0, 5, 6, 0, 0), "25: BAD (kind) ahead of STATE");
        due.is(BAD, y.charter(0, 0, 6, 5, 0, 0), "25: BAD (from above to) ahead of STATE");
        due.is(BAD, y.charter(0, 0, 5, 10000, 0, 0), "25: BAD (to) ahead of STATE");
        due.is(BAD, y.charter(0, 0, -1, 5, 0, 0), "25: BAD (from) ahead of STATE");
        due.is(BAD, y.charter(0, 0, 5, 6, 1, 0), "25: BAD (text) ahead of STATE");
        due.is(BAD, y.charter(0, 0, 5, 6, 0, -1), "25: BAD (amounts) ahead of STATE");
        due.is(STATE, y.charter(0, 0, 5, 6, 0, 0), "25: STATE");
        due.is(2, y.count(4), "25: a refusal changes nothing");
        y.lift(0, true);
        due.is(BAD, y.lift(1, true), "26: another KIND");
        due.is(STATE, y.lift(0, true), "26: it is lifted");
        due.is(BAD, y.account(2, 10000), "30: all wrong");
        due.is(NONE, y.counts(1, -1), "29: no hour: none of it");
    }

    /** hour and over begin anew at each charter's first hour; weekday and clock do not. */
    private static void namesByCharter() {
        TrampOffice x = fleet();
        x.log(0, 0, 500);
        TextsTest.feed(x, "lay hour=over and hour<24;off weekday=1 and clock=0;");
        x.text();
        x.charter(0, 0, 1, 23, 1, 0);
        x.charter(0, 0, 24, 50, 1, 0);
        x.charter(0, 0, 51, 191, 1, 0);
        x.charter(0, 0, 192, 192, 1, 0);
        due.is(23, x.charterTold(0, 5), "3: over is hour, all of 1 .. 23");
        due.is(24, x.charterTold(1, 5), "3: 24 hours of 24 .. 50");
        due.is(0, x.counts(1, 47), "3: hour 23 of it");
        due.is(2, x.counts(1, 48), "3: hour 24 of it");
        due.is(0, x.charterTold(1, 6), "3: hour 24 is LAY ahead of OFF");
        due.is(24, x.charterTold(2, 5), "3: over begins at 0 again");
        due.is(0, x.charterTold(2, 6), "3: no hour 0 of weekday 1 behind them");
        due.is(0, x.counts(3, 192), "3: its hour 0 is LAY");
        TextsTest.feed(x, "lay over;off weekday=1 and clock=0;");
        x.text();
        x.charter(0, 0, 193, 400, 2, 0);
        due.is(0, x.charterTold(4, 5), "3: over is 0 till one is LAY");
        due.is(1, x.charterTold(4, 6), "3: one hour 0 of weekday 1");
        due.is(1, x.counts(4, 360), "3: it is hour 360");
        due.is(2, x.counts(4, 359), "3: not the one ahead");
        due.is(2, x.counts(4, 361), "3: not the one behind");
    }

    public static void main(String[] args) {
        countsOutside();
        edgesOfTime();
        mostAndLeast();
        amountsApart();
        fullWithFallen();
        whichFirst();
        namesByCharter();
        charter();
        lift();
        fell();
        told();
        pay();
        counts();
        account();
        due.end();
    }
}
