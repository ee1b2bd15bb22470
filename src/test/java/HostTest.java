/** Promises 32 to 35: counts, sheets, cells, charters taken for one of a kind. */
public final class HostTest {
    private static final int BAD = TrampOffice.BAD;
    private static final int[] FAR = {Integer.MIN_VALUE, -2147483647, -1, Integer.MAX_VALUE};
    private static final Due due = new Due("HostTest");

    private static TrampOffice fleet() {
        TrampOffice x = new TrampOffice();
        x.port(10, 1);
        x.port(10, 1);
        for (int i = 0; i < 5; i++) {
            x.ship(0, 100, 10, 1);
        }
        return x;
    }

    private static void count() {
        TrampOffice x = fleet();
        x.offer(0, 1, 1, 1, 1, 1);
        x.offer(0, 1, 1, 1, 1, 1);
        x.offer(0, 1, 1, 1, 1, 1);
        for (int i = 0; i < 4; i++) {
            x.charter(i, 0, i, i, 0, 0);
        }
        x.go(0);
        TextsTest.feed(x, "lay 0;off 0;");
        x.text();
        TextsTest.feed(x, "lay of");
        int[] want = {2, 5, 3, 2, 4, 6, 1};
        for (int what = 0; what < 7; what++) {
            due.is(want[what], x.count(what), "32: what " + what);
        }
        due.is(BAD, x.count(7), "32: what 7");
        for (int far : FAR) {
            due.is(BAD, x.count(far), "32: what " + far);
        }
    }

    /** How many items a sheet has, told by its cells. */
    private static int items(TrampOffice x, int sheet) {
        int i = 0;
        while (i < 50 && x.cell(sheet, i, 0) == 1) {
            i++;
        }
        return i;
    }

    private static void sheet() {
        TrampOffice x = fleet();
        int[] sizes = {0, 1, 39, 40};
        for (int i = 0; i < 4; i++) {
            due.is(1, x.sheet(i, i % 3, sizes[i]), "33: sheet " + i);
        }
        for (int i = 0; i < 4; i++) {
            due.is(sizes[i], items(x, i), "33: items of sheet " + i);
        }
        due.is(BAD, x.sheet(4, 0, 1), "33: no sheet 4");
        due.is(BAD, x.sheet(0, 3, 1), "33: no sort 3");
        due.is(BAD, x.sheet(0, -2, 1), "33: no sort -2");
        due.is(BAD, x.sheet(0, 0, 41), "33: n 41");
        due.is(-14, x.sheet(0, 0, -1), "33: n -1");
        due.is(BAD, x.sheet(4, 0, -1), "33: BAD ahead of -14");
        due.is(BAD, x.sheet(0, 3, -1), "33: BAD ahead of -14");
        due.is(BAD, x.sheet(4, -1, 0), "33: no sheet 4, missing");
        due.is(-14, x.sheet(0, 2, Integer.MIN_VALUE), "33: n far below 0");
        due.is(BAD, x.sheet(0, 2, Integer.MAX_VALUE), "33: n far above 40");
        for (int far : FAR) {
            due.is(BAD, x.sheet(far, 0, 1), "33: sheet " + far);
            if (far != -1) {
                due.is(BAD, x.sheet(0, far, 1), "33: sort " + far);
            }
        }
        for (int i = 0; i < 4; i++) {
            due.is(sizes[i], items(x, i), "33: a refusal changes nothing, sheet " + i);
        }
        // all 0 when it is made anew, and of the new sort
        x.sheet(1, 2, 3);
        x.cell(1, 0, 5);
        x.cell(1, 1, 9);
        due.is(1, x.lay(0, 1, 2, 0, 1), "33: (an hour)");
        due.is(1, x.sheet(1, 0, 3), "33: anew");
        due.is(-13, x.lay(0, 1, 2, 0, 1), "33: it is of bytes now");
        due.is(4, x.lay(0, 1, 0, 0, 3), "33: all of it are SORTS");
        for (int h = 1; h < 4; h++) {
            due.is(0, x.sort(0, h), "33: all 0, hour " + h);
        }
        // missing, n does not matter
        int[] any = {0, -1, 41, Integer.MAX_VALUE, Integer.MIN_VALUE};
        for (int n : any) {
            x.sheet(1, 0, 2);
            due.is(1, x.sheet(1, -1, n), "33: missing with n " + n);
            due.is(-11, x.cell(1, 0, 0), "33: it is missing");
            due.is(-11, x.lay(0, 1, 0, 0, 0), "33: it is missing");
        }
        due.is(1, x.sheet(1, -1, 0), "33: missing twice");
        due.is(40, items(x, 3), "33: the others stay");
    }

    /** What a cell of a sort keeps of v, told by a log: 1 where it is the SORT, else BAD. */
    private static void keeps(int sheetSort, int v, int hourSort) {
        TrampOffice x = fleet();
        x.sheet(0, sheetSort, 2);
        due.is(1, x.cell(0, 1, v), "34: " + v + " in a sheet of sort " + sheetSort);
        due.is(hourSort < 0 ? BAD : 1, x.lay(0, 0, sheetSort, 1, 1), "34: " + v + " as an hour");
        due.is(hourSort, x.sort(0, 0), "34: " + v + " as a SORT");
    }

    private static void cell() {
        TrampOffice x = fleet();
        x.sheet(0, 0, 3);
        due.is(1, x.cell(0, 0, 1), "34: the first item");
        due.is(1, x.cell(0, 2, 3), "34: the last item");
        due.is(-12, x.cell(0, 3, 0), "34: item 3");
        due.is(-12, x.cell(0, -1, 0), "34: item -1");
        due.is(BAD, x.cell(4, 0, 0), "34: no sheet 4");
        due.is(-11, x.cell(1, 0, 0), "34: missing");
        due.is(-11, x.cell(1, -1, 0), "34: -11 ahead of -12");
        due.is(BAD, x.cell(-1, -1, 0), "34: BAD ahead of all");
        for (int far : FAR) {
            due.is(BAD, x.cell(far, 0, 0), "34: sheet " + far);
            due.is(-12, x.cell(0, far, 0), "34: item " + far);
            due.is(1, x.cell(0, 1, far), "34: v " + far);
        }
        x.cell(0, 1, 2);
        x.lay(0, 0, 0, 0, 3);
        for (int h = 0; h < 3; h++) {
            due.is(h + 1, x.sort(0, h), "34: each item its own, " + h);
        }
        for (int sort = 0; sort < 3; sort++) {
            keeps(sort, 5, 5);
            keeps(sort, 6, -1);
            keeps(sort, -1, -1);
            keeps(sort, 127, -1);
            keeps(sort, 128, -1);
            keeps(sort, 255, -1);
            keeps(sort, Integer.MAX_VALUE, -1);
            keeps(sort, 256 + 3, sort == 0 ? 3 : -1);
            keeps(sort, -256 + 4, sort == 0 ? 4 : -1);
            keeps(sort, 32768 + 1, sort == 0 ? 1 : -1);
            keeps(sort, 65536 + 2, sort < 2 ? 2 : -1);
            keeps(sort, -65536 + 1, sort < 2 ? 1 : -1);
            keeps(sort, Integer.MIN_VALUE, sort < 2 ? 0 : -1);
            keeps(sort, 65536 + 256 + 2, sort == 0 ? 2 : -1);
        }
    }

    private static void taken() {
        TrampOffice x = fleet();
        boolean[][] under = {
            {true, false, false, false, false, false},
            {true, true, false, false, false, false},
            {true, true, true, false, false, false},
            {true, false, false, true, false, false},
            {true, false, false, false, true, false},
            {true, false, false, false, false, true}};
        for (int kind = 0; kind < 6; kind++) {
            x.charter(kind, kind % 5, 10 + kind, 10 + kind, 0, 0);
        }
        for (int kind = 0; kind < 6; kind++) {
            for (int k = 0; k < 6; k++) {
                due.is(under[kind][k] ? kind % 5 : -13, x.taken(kind, k), "35: kind " + kind + " for " + k);
            }
        }
        due.is(BAD, x.taken(0, 6), "35: kind 6");
        due.is(-11, x.taken(6, 0), "35: no charter 6");
        due.is(BAD, x.taken(6, 6), "35: BAD ahead of -11");
        for (int far : FAR) {
            due.is(BAD, x.taken(0, far), "35: kind " + far);
            due.is(-11, x.taken(far, 0), "35: charter " + far);
        }
        x.lift(5, false);
        due.is(0, x.taken(5, 5), "35: one that fell");
        due.is(0, x.taken(5, 0), "35: one that fell");
    }

    /** Each size from -1 to 41, each sort: its last item is taken, the one behind it is not. */
    private static void eachSize() {
        TrampOffice x = fleet();
        for (int n = -1; n <= 41; n++) {
            int want = n < 0 ? -14 : n > 40 ? BAD : 1;
            due.is(want, x.sheet(n & 3, (n + 3) % 3, n), "33: n " + n);
            if (want == 1) {
                due.is(n == 0 ? -12 : 1, x.cell(n & 3, n - 1, 7), "34: item " + (n - 1) + " of " + n);
                due.is(-12, x.cell(n & 3, n, 7), "34: item " + n + " of " + n);
                due.is(-12, x.cell(n & 3, -1, 7), "34: item -1 of " + n);
            }
        }
        // a smaller one than it was has no items of the larger one
        x.sheet(0, 2, 40);
        x.cell(0, 39, 5);
        x.sheet(0, 2, 1);
        due.is(-12, x.cell(0, 1, 0), "33: smaller");
        x.sheet(0, 2, 40);
        due.is(40, x.lay(0, 0, 2, 0, 40), "33: all 0 when it is larger again");
        due.is(0, x.sort(0, 39), "33: all 0 when it is larger again");
    }

    private static void whichFirst() {
        TrampOffice x = new TrampOffice();
        due.is(BAD, x.sheet(4, 3, 41), "33: all wrong");
        due.is(BAD, x.sheet(0, 3, 0), "33: no sort 3");
        due.is(BAD, x.sheet(-1, -1, 0), "33: no sheet -1, missing");
        due.is(BAD, x.sheet(0, -2, -1), "33: BAD (sort) ahead of -14");
        due.is(-11, x.cell(0, 0, 0), "34: a refusal made no sheet");
        due.is(-11, x.cell(3, 40, 0), "34: -11 ahead of -12, sheet 3");
        due.is(BAD, x.cell(4, 40, 0), "34: BAD ahead of -11");
        due.is(-11, x.taken(0, 0), "35: a new object has no charters");
        due.is(BAD, x.taken(0, -1), "35: BAD ahead of -11, a new object");
        TrampOffice y = fleet();
        y.charter(0, 0, 0, 0, 0, 0);
        due.is(BAD, y.taken(0, 6), "35: BAD ahead of -13");
        due.is(-13, y.taken(0, 5), "35: -13");
        due.is(-11, y.taken(1, 5), "35: -11 of a KIND it is not, either");
        due.is(1, y.sheet(0, 0, 0), "33: n 0");
        due.is(-14, y.sheet(0, 0, -1), "33: -14");
        due.is(-12, y.cell(0, 0, 0), "33: still none in it");
    }

    /** A new object: nothing but TEXT 0; then each count at the document's limit. */
    private static void countFull() {
        TrampOffice x = new TrampOffice();
        for (int what = 0; what < 7; what++) {
            due.is(what == 3 ? 1 : 0, x.count(what), "32: new, what " + what);
        }
        for (int i = 0; i < 9; i++) x.port(10, 1);
        for (int i = 0; i < 6; i++) x.ship(0, 100, 10, 1);
        for (int i = 0; i < 11; i++) x.offer(0, 1, 1, 1, 1, 1);
        for (int i = 0; i < 6; i++) {
            TextsTest.feed(x, "lay 0;off 0;");
            if (x.count(3) < 6) x.text();
        }
        for (int i = 0; i < 13; i++) x.charter(0, 0, i, i, 0, 0);
        while (x.count(5) < 160) x.feed(1, 32);
        for (int i = 0; i < 7; i++) x.go(i & 1);
        int[] want = {8, 5, 10, 6, 12, 160, 6};
        for (int what = 0; what < 7; what++) {
            due.is(want[what], x.count(what), "32: full, what " + what);
        }
        // the number behind the last one that there can be
        due.is(BAD, x.price(8, 1), "4: no port 8");
        due.is(BAD, x.go(8), "15: no port 8");
        due.is(BAD, x.shipTold(5, 0), "8: no ship 5");
        due.is(BAD, x.bunker(5), "17: no ship 5");
        due.is(BAD, x.owners(5), "31: no ship 5");
        due.is(BAD, x.why(4, 10), "10: no offer 10");
        due.is(BAD, x.fix(4, 10), "14: no offer 10");
        due.is(TrampOffice.NO, x.estimate(4, 10, 0), "11: no offer 10");
        due.is(BAD, x.charter(0, 1, 0, 0, 6, 0), "25: no text 6");
        due.is(BAD, x.charterTold(12, 0), "27: no charter 12");
        due.is(-11, x.taken(12, 0), "35: no charter 12");
        due.is(0, x.shipTold(4, 0), "8: ship 4 is there");
        due.is(2, x.why(4, 9), "10: offer 9 is there, its way lacks");
        due.is(TrampOffice.FULL, x.charter(0, 1, 0, 0, 5, 0), "25: text 5 is there");
        due.is(11, x.charterTold(11, 2), "27: charter 11 is there");
    }

    public static void main(String[] args) {
        eachSize();
        whichFirst();
        countFull();
        count();
        sheet();
        cell();
        taken();
        due.end();
    }
}
