/** Promises 19 to 22: hours come behind the log, from a sheet too, are put right and told. */
public final class LogsTest {
    private static final int NONE = TrampOffice.NONE, BAD = TrampOffice.BAD, STATE = TrampOffice.STATE, FULL = TrampOffice.FULL;
    private static final int[] FAR = {Integer.MIN_VALUE, -2147483647, -1, Integer.MAX_VALUE};
    private static final Due due = new Due("LogsTest");

    private static TrampOffice fleet() {
        TrampOffice x = new TrampOffice();
        x.port(10, 1);
        x.ship(0, 100, 10, 1);
        x.ship(0, 100, 10, 1);
        return x;
    }

    private static void row(TrampOffice x, int sheet, int sort, int... items) {
        x.sheet(sheet, sort, items.length);
        for (int i = 0; i < items.length; i++) {
            x.cell(sheet, i, items[i]);
        }
    }

    private static void log() {
        TrampOffice x = fleet();
        due.is(1, x.log(0, 0, 1), "19: one");
        due.is(501, x.log(0, 5, 500), "19: 500");
        due.is(3, x.log(1, 4, 3), "19: each ship has its own");
        due.is(BAD, x.log(0, 6, 1), "19: sort 6");
        due.is(BAD, x.log(0, -1, 1), "19: sort -1");
        due.is(BAD, x.log(0, 0, 0), "19: n 0");
        due.is(BAD, x.log(0, 0, 501), "19: n 501");
        due.is(BAD, x.log(2, 0, 1), "19: no ship 2");
        for (int far : FAR) {
            due.is(BAD, x.log(far, 0, 1), "19: ship " + far);
            due.is(BAD, x.log(0, far, 1), "19: sort " + far);
            due.is(BAD, x.log(0, 0, far), "19: n " + far);
        }
        due.is(501, x.shipTold(0, 6), "19: a refusal changes nothing");
        due.is(0, x.sort(0, 0), "19: the first hour");
        due.is(5, x.sort(0, 1), "19: the second hour");
        due.is(5, x.sort(0, 500), "19: the last hour");
        x.log(0, 1, 500);
        x.log(0, 2, 500);
        due.is(FULL, x.log(0, 3, 500), "19: 2001");
        due.is(1501, x.shipTold(0, 6), "19: none of them came");
        due.is(1999, x.log(0, 3, 498), "19: 1999");
        due.is(FULL, x.log(0, 3, 2), "19: 2001");
        due.is(BAD, x.log(0, 6, 500), "19: BAD ahead of FULL");
        due.is(2000, x.log(0, 4, 1), "19: 2000");
        due.is(FULL, x.log(0, 3, 1), "19: 2001");
        due.is(BAD, x.log(0, 3, 0), "19: BAD ahead of FULL");
        due.is(3, x.sort(0, 1998), "19: hour 1998");
        due.is(4, x.sort(0, 1999), "19: hour 1999");
        due.is(4, x.log(1, 0, 1), "19: the other one has room");
    }

    private static void lay() {
        TrampOffice x = fleet();
        row(x, 0, 0, 1, 2, 3, 4, 5, 0);
        row(x, 1, 1, 6, 0, -1, 3);
        row(x, 2, 2, 65536, 1, 256);
        due.is(6, x.lay(0, 0, 0, 0, 6), "20: all of a sheet");
        int[] sorts = {1, 2, 3, 4, 5, 0};
        for (int h = 0; h < 6; h++) {
            due.is(sorts[h], x.sort(0, h), "20: hour " + h);
        }
        due.is(NONE, x.sort(1, 0), "20: the other one has none");
        due.is(8, x.lay(0, 0, 0, 3, 2), "20: two of the middle");
        due.is(4, x.sort(0, 6), "20: the fourth item");
        due.is(5, x.sort(0, 7), "20: the fifth item");
        due.is(8, x.lay(0, 0, 0, 5, 0), "20: n 0");
        due.is(8, x.lay(0, 0, 0, 6, 0), "20: n 0 behind the end");
        due.is(8, x.lay(0, 0, 0, Integer.MIN_VALUE, 0), "20: n 0 far outside");
        due.is(9, x.lay(0, 1, 1, 1, 1), "20: shorts");
        due.is(10, x.lay(0, 2, 2, 1, 1), "20: ints");

        due.is(BAD, x.lay(2, 0, 0, 0, 1), "20: no ship 2");
        due.is(BAD, x.lay(0, 4, 0, 0, 1), "20: no sheet 4");
        due.is(BAD, x.lay(0, 0, 3, 0, 1), "20: no sort 3");
        due.is(BAD, x.lay(0, 0, -1, 0, 1), "20: no sort -1");
        due.is(BAD, x.lay(0, 3, -1, 0, 1), "20: no sort -1, missing");
        due.is(BAD, x.lay(0, 0, 0, 0, -1), "20: n -1");
        due.is(BAD, x.lay(0, 0, 1, 0, -1), "20: BAD ahead of -13");
        due.is(BAD, x.lay(0, 3, 1, 0, -1), "20: BAD ahead of -11");
        for (int far : FAR) {
            due.is(BAD, x.lay(far, 0, 0, 0, 1), "20: ship " + far);
            due.is(BAD, x.lay(0, far, 0, 0, 1), "20: sheet " + far);
            due.is(BAD, x.lay(0, 0, far, 0, 1), "20: sort " + far);
            due.is(-12, x.lay(0, 0, 0, far, 1), "20: i " + far);
            due.is(-12, x.lay(0, 0, 0, far, Integer.MAX_VALUE), "20: i " + far + ", n far");
        }
        due.is(BAD, x.lay(0, 0, 0, 0, Integer.MIN_VALUE), "20: n far below 0");
        due.is(-13, x.lay(0, 0, 1, 0, 0), "20: bytes taken for shorts");
        due.is(-13, x.lay(0, 0, 2, 9, 1), "20: bytes taken for ints, ahead of -12");
        due.is(-13, x.lay(0, 1, 0, 0, 1), "20: shorts taken for bytes, ahead of BAD of an item");
        due.is(-13, x.lay(0, 1, 2, 1, 1), "20: shorts taken for ints");
        due.is(-13, x.lay(0, 2, 0, 1, 1), "20: ints taken for bytes");
        due.is(-13, x.lay(0, 2, 1, 1, 1), "20: ints taken for shorts");
        for (int sort = 0; sort < 3; sort++) {
            due.is(-11, x.lay(0, 3, sort, 0, 0), "20: missing, n 0");
            due.is(-11, x.lay(0, 3, sort, 0, 1), "20: missing, n 1");
        }
        due.is(-12, x.lay(0, 0, 0, 6, 1), "20: item 6");
        due.is(-12, x.lay(0, 0, 0, -1, 2), "20: item -1");
        due.is(BAD, x.lay(0, 1, 1, 0, 1), "20: no SORT 6");
        due.is(BAD, x.lay(0, 1, 1, 2, 1), "20: no SORT -1");
        due.is(BAD, x.lay(0, 2, 2, 0, 1), "20: no SORT 65536");
        due.is(BAD, x.lay(0, 2, 2, 2, 1), "20: no SORT 256");
        due.is(10, x.shipTold(0, 6), "20: a refusal changes nothing");
    }

    private static void layInPart() {
        TrampOffice x = fleet();
        row(x, 0, 0, 3, 4, 9, 1);
        due.is(BAD, x.lay(0, 0, 0, 0, 4), "20: the third item is no SORT");
        due.is(2, x.shipTold(0, 6), "20: what stood ahead came");
        due.is(4, x.sort(0, 1), "20: what stood ahead came");
        due.is(-12, x.lay(0, 0, 0, 3, 2), "20: the second one is outside");
        due.is(3, x.shipTold(0, 6), "20: what stood ahead came");
        due.is(1, x.sort(0, 2), "20: what stood ahead came");
        due.is(-12, x.lay(0, 0, 0, 3, Integer.MAX_VALUE), "20: n far");
        due.is(4, x.shipTold(0, 6), "20: what stood ahead came");
        for (int i = 0; i < 3; i++) {
            x.log(0, 0, 500);
        }
        x.log(0, 0, 495);
        due.is(1999, x.shipTold(0, 6), "20: (1999)");
        due.is(FULL, x.lay(0, 0, 0, 0, 2), "20: room for one");
        due.is(2000, x.shipTold(0, 6), "20: what stood ahead came");
        due.is(3, x.sort(0, 1999), "20: what stood ahead came");
        due.is(FULL, x.lay(0, 0, 0, 0, 1), "20: no room");
        due.is(BAD, x.lay(0, 0, 0, 2, 1), "20: BAD ahead of FULL");
        due.is(-12, x.lay(0, 0, 0, 4, 1), "20: -12 ahead of FULL");
        due.is(2000, x.lay(0, 0, 0, 0, 0), "20: n 0, no room");
        row(x, 0, 0);
        due.is(-12, x.lay(1, 0, 0, 0, 1), "20: a sheet of none");
        due.is(0, x.lay(1, 0, 0, 0, 0), "20: a sheet of none, n 0");
        x.sheet(0, 2, 40);
        due.is(40, x.lay(1, 0, 2, 0, 40), "20: 40 of them");
        due.is(-12, x.lay(1, 0, 2, 0, 41), "20: 41 of them");
        due.is(80, x.shipTold(1, 6), "20: 40 of them came");
    }

    private static void right() {
        TrampOffice x = fleet();
        x.log(0, 1, 3);
        due.is(1, x.right(0, 1, 5), "21: what it was");
        due.is(5, x.right(0, 1, 0), "21: put right again");
        due.is(1, x.sort(0, 0), "21: the one ahead stays");
        due.is(0, x.sort(0, 1), "21: the new one");
        due.is(1, x.sort(0, 2), "21: the one behind stays");
        due.is(1, x.right(0, 0, 1), "21: the first one");
        due.is(1, x.right(0, 2, 2), "21: the last one");
        due.is(1, x.right(0, 0, 4), "21: the first one, to another");
        due.is(4, x.sort(0, 0), "21: the first one is another");
        due.is(4, x.right(0, 0, 1), "21: the first one, back");
        due.is(2, x.right(0, 2, 3), "21: the last one, to another");
        due.is(3, x.sort(0, 2), "21: the last one is another");
        due.is(STATE, x.right(0, 3, 0), "21: behind the log");
        due.is(STATE, x.right(0, 9999, 0), "21: hour 9999");
        due.is(STATE, x.right(1, 0, 0), "21: an empty log");
        due.is(BAD, x.right(0, 10000, 0), "21: hour 10000");
        due.is(BAD, x.right(0, 0, 6), "21: sort 6");
        due.is(BAD, x.right(0, 3, 6), "21: BAD ahead of STATE");
        due.is(BAD, x.right(2, 0, 0), "21: no ship 2");
        for (int far : FAR) {
            due.is(BAD, x.right(far, 0, 0), "21: ship " + far);
            due.is(BAD, x.right(0, far, 0), "21: hour " + far);
            due.is(BAD, x.right(0, 0, far), "21: sort " + far);
        }
        due.is(3, x.shipTold(0, 6), "21: no hour more");
        due.is(1, x.sort(0, 0), "21: a refusal changes nothing");
    }

    private static void sort() {
        TrampOffice x = fleet();
        due.is(NONE, x.sort(0, 0), "22: an empty log");
        for (int s = 0; s < 6; s++) {
            x.log(0, s, 2);
        }
        for (int h = 0; h < 12; h++) {
            due.is(h / 2, x.sort(0, h), "22: hour " + h);
        }
        due.is(NONE, x.sort(0, 12), "22: behind the log");
        due.is(NONE, x.sort(0, 9999), "22: hour 9999");
        due.is(NONE, x.sort(0, 10000), "22: no HOUR, and the log does not have it");
        due.is(BAD, x.sort(2, 0), "22: no ship 2");
        for (int far : FAR) {
            due.is(BAD, x.sort(far, 0), "22: ship " + far);
            due.is(NONE, x.sort(0, far), "22: hour " + far);
        }
    }

    /** Each way to the last hour: by a log of one, of 500, by a sheet. */
    private static void lastHours() {
        TrampOffice x = fleet();
        for (int i = 0; i < 3; i++) {
            x.log(0, 0, 500);
        }
        due.is(2000, x.log(0, 5, 500), "19: 500 that just have room");
        due.is(5, x.sort(0, 1500), "19: hour 1500");
        due.is(5, x.sort(0, 1999), "19: hour 1999");
        due.is(NONE, x.sort(0, 2000), "22: hour 2000");
        due.is(5, x.right(0, 1999, 2), "21: hour 1999");
        due.is(2, x.sort(0, 1999), "21: hour 1999");
        due.is(STATE, x.right(0, 2000, 2), "21: hour 2000");
        due.is(BAD, x.right(0, 2000, 6), "21: BAD ahead of STATE, hour 2000");
        due.is(2000, x.shipTold(0, 6), "8: 2000 hours");
        for (int i = 0; i < 3; i++) {
            x.log(1, 0, 500);
        }
        x.log(1, 0, 497);
        row(x, 0, 2, 1, 2, 3, 4);
        due.is(FULL, x.lay(1, 0, 2, 0, 4), "20: four, room for three");
        due.is(2000, x.shipTold(1, 6), "20: three came");
        due.is(1, x.sort(1, 1997), "20: the first of three");
        due.is(3, x.sort(1, 1999), "20: the last of three");
        due.is(NONE, x.sort(1, 2000), "20: not the fourth");
        due.is(2000, x.lay(1, 0, 2, 1, 0), "20: n 0, no room");
    }

    /** What stood ahead came and no more, for each of the three that can stop it, and each is the first at its item. */
    private static void stopsAtItem() {
        TrampOffice x = fleet();
        row(x, 0, 1, 5, 6);
        due.is(BAD, x.lay(0, 0, 1, 1, 5), "20: BAD at the first item, outside behind it");
        due.is(0, x.shipTold(0, 6), "20: none came");
        due.is(BAD, x.lay(0, 0, 1, 0, Integer.MAX_VALUE), "20: BAD at the second item, outside behind it");
        due.is(1, x.shipTold(0, 6), "20: one came");
        due.is(-12, x.lay(0, 0, 1, -1, 2), "20: outside at the first item");
        due.is(-12, x.lay(0, 0, 1, 2, 1), "20: outside behind the last item");
        due.is(-12, x.lay(0, 0, 1, Integer.MAX_VALUE, 2), "20: outside, i can't go on");
        due.is(1, x.shipTold(0, 6), "20: none came");
        row(x, 0, 1, 5, 4, 3);
        due.is(4, x.lay(0, 0, 1, 0, 3), "20: just all");
        due.is(-12, x.lay(0, 0, 1, 0, 4), "20: one too many");
        due.is(7, x.shipTold(0, 6), "20: all of them came");
        due.is(-12, x.lay(0, 0, 1, 2, 2), "20: one, then outside");
        due.is(8, x.shipTold(0, 6), "20: one came");
        due.is(3, x.sort(0, 7), "20: it is the last item");
    }

    private static void whichFirst() {
        TrampOffice x = new TrampOffice();
        due.is(BAD, x.log(0, 0, 1), "19: a new object has no ships");
        due.is(BAD, x.lay(0, 0, 0, 0, 0), "20: a new object, BAD ahead of -11");
        due.is(BAD, x.right(0, 0, 0), "21: a new object, BAD ahead of STATE");
        due.is(BAD, x.sort(0, 0), "22: a new object, BAD and not NONE");
        TrampOffice y = fleet();
        due.is(BAD, y.sort(2, -1), "22: no ship, no hour");
        due.is(-11, y.lay(0, 0, 0, 0, 0), "20: a sheet that never was");
        row(y, 0, 0, 9);
        due.is(BAD, y.lay(2, 0, 1, 9, 9), "20: BAD (ship) ahead of -13, -12");
        due.is(BAD, y.lay(0, 4, 1, 9, 9), "20: BAD (sheet)");
        due.is(BAD, y.lay(0, 0, 3, 9, 9), "20: BAD (sort) ahead of -13, -12");
        due.is(BAD, y.lay(0, 0, 0, 9, -1), "20: BAD (n) ahead of -12");
        due.is(-13, y.lay(0, 0, 1, 9, 9), "20: -13 ahead of -12");
        due.is(-13, y.lay(0, 0, 1, 0, 1), "20: -13 ahead of BAD of an item");
        due.is(-12, y.lay(0, 0, 0, 9, 9), "20: -12");
        y.sheet(0, -1, 0);
        due.is(-11, y.lay(0, 0, 0, 0, 0), "20: missing again");
        due.is(-11, y.lay(0, 0, 2, -1, 1), "20: -11 ahead of -12");
        due.is(0, y.shipTold(0, 6), "20: no hour came");
    }

    public static void main(String[] args) {
        lastHours();
        stopsAtItem();
        whichFirst();
        log();
        lay();
        layInPart();
        right();
        sort();
        due.end();
    }
}
