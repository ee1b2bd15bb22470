/** Promises 23 and 24: the tape, texts, their faults; and what a text tells of an hour. */
public final class TextsTest {
    private static final int BAD = TrampOffice.BAD, FULL = TrampOffice.FULL;
    private static final int[] FAR = {Integer.MIN_VALUE, -2147483647, -1, Integer.MAX_VALUE};
    private static final Due due = new Due("TextsTest");
    private static TrampOffice faults = new TrampOffice();
    private static int faultsOfIt = 0;

    static int feed(TrampOffice x, String text) {
        int size = x.count(5);
        for (int i = 0; i < text.length(); i += 8) {
            int n = Math.min(8, text.length() - i);
            long bytes = 0;
            for (int k = 0; k < n; k++) {
                bytes |= (long) text.charAt(i + k) << 8 * k;
            }
            size = x.feed(n, bytes);
        }
        return size;
    }

    /** Some faults on one object, but not more than its 512 calls. */
    private static void fault(int place, String text) {
        if (faultsOfIt == 20) {
            faults = new TrampOffice();
            faultsOfIt = 0;
        }
        faultsOfIt++;
        due.is(text.length(), feed(faults, text), "23: '" + text + "' on the tape");
        due.is(-100 - place, faults.text(), "24: fault of '" + text + "'");
        due.is(0, faults.count(5), "24: the tape is empty by a fault too");
        due.is(1, faults.count(3), "24: no text more by a fault");
    }

    private static void good(String text) {
        TrampOffice x = new TrampOffice();
        feed(x, text);
        due.is(1, x.text(), "24: '" + text + "'");
        due.is(0, x.count(5), "24: the tape is empty then");
        due.is(2, x.count(3), "24: one text more");
    }

    private static void faultOfLay(int place, String e) {
        fault(4 + place, "lay " + e + ";off 0;");
    }

    private static void goodLay(String e) {
        good("lay " + e + ";off 0;");
    }

    private static void feeding() {
        TrampOffice x = new TrampOffice();
        due.is(BAD, x.feed(0, 5), "23: n 0");
        due.is(BAD, x.feed(9, 5), "23: n 9");
        for (int far : FAR) {
            due.is(BAD, x.feed(far, 5), "23: n " + far);
        }
        due.is(0, x.count(5), "23: a refusal changes nothing");
        for (int n = 1; n <= 8; n++) {
            due.is(n * (n + 1) / 2, x.feed(n, 0x2020202020202020L), "23: n " + n);
        }
        for (int i = 0; i < 15; i++) {
            due.is(44 + 8 * i, x.feed(8, 0x2020202020202020L), "23: eight more");
        }
        due.is(FULL, x.feed(5, 0), "23: 161");
        due.is(BAD, x.feed(9, 0), "23: BAD ahead of FULL");
        due.is(156, x.count(5), "23: a refusal changes nothing");
        due.is(160, x.feed(4, 0x0a0a0a0aL), "23: 160");
        due.is(FULL, x.feed(1, 0), "23: 161");
        due.is(-260, x.text(), "24: blanks alone: the text's size");
        due.is(0, x.count(5), "24: empty then");

        // the lowest first, and no more than n of them
        due.is(3, x.feed(3, 0x12345679616cL | 0x79L << 16), "23: lay");
        due.is(8, x.feed(5, 0xffffff203b302fL << 8 | 0x20), "23: five of seven");
        due.is(-104, x.text(), "24: the fifth byte begins none");
        due.is(8, x.feed(8, 0xff20202020796c61L), "23: eight with the highest bit");
        due.is(-100, x.text(), "24: aly is no word");
        due.is(8, feed(x, "lay 0;  "), "23: lay 0");
        due.is(8 + 8, feed(x, "off 1;  "), "23: off 1");
        due.is(1, x.text(), "24: a text");
    }

    private static void fullOfTexts() {
        TrampOffice x = new TrampOffice();
        for (int i = 1; i < 6; i++) {
            feed(x, "lay 1;");
            due.is(-106, x.text(), "24: ends too early");
            feed(x, "lay 1;off 0;");
            due.is(i, x.text(), "24: text " + i);
        }
        due.is(6, x.count(3), "24: six texts");
        due.is(FULL, x.text(), "24: FULL ahead of the fault of an empty tape");
        feed(x, "lay 1;");
        due.is(FULL, x.text(), "24: FULL ahead of a fault");
        due.is(6, x.count(5), "24: the tape stays");
        due.is(7, x.feed(1, 32), "23: and goes on");
    }

    private static void tokens() {
        fault(0, "");
        fault(1, " ");
        fault(2, "\n ");
        fault(0, "\tlay 0;off 0;");
        fault(0, "\rlay 0;off 0;");
        fault(0, "Lay 0;off 0;");
        fault(3, "lay\0000;off 0;");
        fault(12, "lay 0;off 0;\u00ff");
        fault(12, "lay 0;off 0;\u0080");
        fault(12, "lay 0;off 0;`");
        fault(12, "lay 0;off 0;{");
        fault(12, "lay 0;off 0;/");
        fault(12, "lay 0;off 0;:");
        fault(12, "lay 0;off 0;,");
        fault(12, "lay 0;off 0;>");
        fault(12, "lay 0;off 0;!");
        good("lay 0;off 0;");
        good("lay 0;off 0; ");
        good("\n lay\n\n0 ; off\n(0)\n;\n");
        good("lay(0);off(0);");
        good("lay-0;off-0;");
        good("lay0;off0;");
        goodLay("1or 2and 3");
        goodLay("1or2and3");
        goodLay("sort=1or sort=2");
        faultOfLay(5, "sort=sor");
        faultOfLay(0, "sortt");
        faultOfLay(0, "weekdays");
        faultOfLay(0, "weekdaysort");
        faultOfLay(0, "weekda");
        goodLay("weekday");
        goodLay("clock+hour+over+sort");
        faultOfLay(1, " x");
        faultOfLay(0, "notover");
        faultOfLay(0, "clocks");
        faultOfLay(4, "hour5");
        faultOfLay(2, "5 hour");
        goodLay("9999");
        goodLay("0000");
        faultOfLay(0, "10000");
        faultOfLay(0, "00000");
        faultOfLay(2, "1+12345678901234567890");
        faultOfLay(5, "9999 0");
        faultOfLay(1, "1_0");
        faultOfLay(4, "1 + A");
    }

    private static void grammar() {
        fault(0, "off 0;lay 0;");
        fault(0, "0");
        fault(3, "lay;off 0;");
        fault(3, "lay");
        fault(4, "lay ");
        fault(5, "lay 0");
        fault(7, "lay 0  ");
        fault(6, "lay 0;");
        fault(7, "lay 0;\n");
        fault(6, "lay 0;lay 0;");
        fault(6, "lay 0;;off 0;");
        fault(9, "lay 0;off");
        fault(9, "lay 0;off;");
        fault(11, "lay 0;off 0");
        fault(12, "lay 0;off 0 ");
        fault(12, "lay 0;off 0;;");
        fault(13, "lay 0;off 0; lay");
        fault(12, "lay 0;off 0;0");
        fault(6, "lay 0 off 0;");
        fault(4, "lay lay 0;off 0;");
        fault(4, "lay off 0;off 0;");
        // the first one that can't stand there, not one behind it
        fault(4, "lay ) A 12345;");
        fault(6, "lay 0 ) A;");
        faultOfLay(0, "or 1");
        faultOfLay(0, "and 1");
        faultOfLay(4, "1 or");
        faultOfLay(6, "1 and ");
        faultOfLay(5, "1 or or 1");
        faultOfLay(5, "1 or and 1");
        goodLay("1 or 2 or 3 and 4 and 5 or 6");
        goodLay("not 1 or not 2 and not 3");
        goodLay("not not 1");
        faultOfLay(3, "not");
        faultOfLay(4, "1 + not 2");
        faultOfLay(4, "1 < not 2");
        faultOfLay(4, "1 = not 2");
        faultOfLay(2, "- not 2");
        faultOfLay(4, "2 * not 2");
        faultOfLay(2, "1 not 2");
        goodLay("1 < 2");
        goodLay("1 = 2");
        faultOfLay(6, "1 < 2 < 3");
        faultOfLay(6, "1 = 2 = 3");
        faultOfLay(6, "1 < 2 = 3");
        faultOfLay(10, "not 1 < 2 < 3");
        goodLay("1 < 2 or 2 < 3 and 3 = 4");
        goodLay("(1 < 2) < 3");
        goodLay("1 = (2 = 3)");
        goodLay("(not 1) + 2");
        faultOfLay(0, "< 1");
        faultOfLay(3, "1 <");
        faultOfLay(1, "1>2");
        faultOfLay(2, "1<<2");
        faultOfLay(2, "1<=2");
        faultOfLay(0, "+1");
        goodLay("1 + 2 - 3 + 4");
        goodLay("1 - -1");
        faultOfLay(4, "1 - +1");
        goodLay("1+2*3-4*-5");
        faultOfLay(2, "2**3");
        faultOfLay(0, "*3");
        faultOfLay(2, "2*");
        faultOfLay(1, "()");
        faultOfLay(2, "(1;");
        faultOfLay(1, "1)");
        faultOfLay(3, "(1))");
        faultOfLay(3, "(1 2)");
        faultOfLay(1, "1(2)");
        faultOfLay(2, "1 sort");
        goodLay("(1 or 2) and (3 or 4)");
        goodLay("(((0)))");
    }

    private static void open() {
        goodLay("(((((0)))))");
        faultOfLay(5, "((((((0))))))");
        goodLay("-----0");
        faultOfLay(5, "------0");
        goodLay("not not not not not 0");
        faultOfLay(20, "not not not not not not 0");
        goodLay("((-(-0)))");
        faultOfLay(5, "((-(-(0))))");
        faultOfLay(5, "((-(--0)))");
        goodLay("not (not (-0))");
        faultOfLay(11, "not (not (--0))");
        goodLay("not (not -(0))");
        faultOfLay(11, "not (not -((0)))");
        faultOfLay(14, "not (not (not (0)))");
        // what has ended is open no more
        goodLay("(0)+(0)+(0)+(0)+(0)+(0)+(0)");
        goodLay("-1-(-1)-(-1)- -1- -1- -1- -1- -1");
        goodLay("not 1 or not 1 or not 1 or not 1 or not 1 or not 1 or not 1");
        goodLay("(((((0)))))+(((((0)))))");
        goodLay("-----1*-----1");
        goodLay("((((0-(0)-(0)))))");
        faultOfLay(9, "(((((0)-((0))))))");
        // a not goes on over what it belongs to, a - ends with its ONE
        goodLay("not 0 + (((( 1 ))))");
        faultOfLay(12, "not 0 + (((((1)))))");
        goodLay("- 0 + (((((1)))))");
        goodLay("- 0 * (((((1)))))");
        faultOfLay(6, "- (((((1)))))");
        good("lay not not not not not 0;off -----0;");
        // binary signs open nothing
        goodLay("((((1-1-1-1-1-1-1))))");
        faultOfLay(7, "(((((1--1)))))");
        goodLay("((((1--1))))");
    }

    /** Texts of 160 bytes, with a fault at the end and without one. */
    private static void longTexts() {
        StringBuilder ones = new StringBuilder("1");
        while (ones.length() < 147) {
            ones.append("+1");
        }
        TrampOffice x = new TrampOffice();
        x.port(10, 1);
        x.ship(0, 100, 10, 1);
        x.log(0, 0, 100);
        for (int i = 0; i < 3; i++) {
            due.is(160, feed(x, "lay " + ones + " ;off 0*;"), "23: 160 bytes");
            due.is(-259, x.text(), "24: the last one can't stand there");
        }
        String e = ones.substring(0, 145);
        due.is(160, feed(x, "lay " + e + "=73;off  0;"), "23: 160 bytes");
        due.is(1, x.text(), "24: 160 bytes, 73 ones");
        due.is(160, feed(x, "lay " + e + "=72;off  1;"), "23: 160 bytes");
        due.is(2, x.text(), "24: 160 bytes, not 72 of them");
        x.charter(0, 0, 0, 49, 1, 0);
        x.charter(0, 0, 50, 99, 2, 0);
        due.is(50, x.charterTold(0, 5), "24: lay, all of them");
        due.is(50, x.charterTold(1, 6), "24: off, all of them");
    }

    /** What an E is for the first hours of a log: told by 1 and 0 where it is set against a number. */
    private static void is(int v, String e, int sort, int hour) {
        TrampOffice x = new TrampOffice();
        x.port(10, 1);
        x.ship(0, 100, 10, 1);
        for (int i = 0; i <= hour / 500; i++) {
            x.log(0, sort, Math.min(500, hour + 1 - 500 * i));
        }
        feed(x, "lay (" + e + ") = " + (v < 0 ? "-" : "") + Math.abs(v) + ";off 0;");
        due.is(1, x.text(), "24: '" + e + "'");
        x.charter(0, 0, hour, 9999, 1, 0);
        due.is(0, x.counts(0, hour), "3: " + e + " is " + v + " for sort " + sort + ", hour " + hour);
    }

    private static void is(int v, String e) {
        is(v, e, 0, 0);
    }

    private static void values() {
        is(7, "1+2*3");
        is(9, "(1+2)*3");
        is(-4, "1-2-3");
        is(2, "1-(2-3)");
        is(-6, "-2*3");
        is(5, "2--3");
        is(1, "2 or 3");
        is(1, "0 or 3");
        is(1, "3 or 0");
        is(0, "0 or 0");
        is(1, "2 and 4");
        is(0, "2 and 0");
        is(0, "0 and 2");
        is(1, "-1 and -1");
        is(1, "1 or 0 and 0");
        is(0, "(1 or 0) and 0");
        is(1, "not 0");
        is(0, "not 2");
        is(0, "not -2");
        is(1, "not not 2");
        is(0, "not 1 or 0");
        is(1, "not 0 or 1");
        is(0, "not 0 and 0");
        is(0, "not 1 < 2");
        is(1, "not 2 < 2");
        is(1, "1 < 2");
        is(0, "2 < 2");
        is(0, "3 < 2");
        is(1, "-1 < 0");
        is(0, "1 = 2");
        is(1, "2 = 2");
        is(1, "1 + 1 = 2");
        is(1, "0 - 1 < 2 * 3");
        is(1, "(1 = 1) = 1");
        is(1, "1 < 2 and 2 < 3");
        is(7, "7");
        is(0, "0000");
        is(9999, "9999");
        is(3, "(not 0) + 2");
        // wrapped to 32 bits
        is(1, "8192*8192*32 < 0");
        is(1, "8192*8192*64 = 0");
        is(1, "8192*8192*32 - 1 = 8191*8192*32+8191*32+31");
        is(1, "-(8192*8192*32) = 8192*8192*32");
        is(0, "8192*8192*32 - 1 < 0");
        is(1, "8192*8192*32 - 1 + 1 < 0");
        for (int sort = 0; sort < 6; sort++) {
            is(sort, "sort", sort, 3);
        }
        is(0, "clock", 0, 0);
        is(23, "clock", 0, 23);
        is(0, "clock", 0, 24);
        is(7, "clock", 0, 1999);
        is(0, "weekday", 0, 23);
        is(1, "weekday", 0, 24);
        is(6, "weekday", 0, 167);
        is(0, "weekday", 0, 168);
        is(83 % 7, "weekday", 0, 1999);
        is(0, "hour", 0, 55);
        is(0, "over", 0, 55);
    }

    private static void rows() {
        TrampOffice x = new TrampOffice();
        x.port(10, 1);
        x.ship(0, 100, 10, 1);
        x.log(0, 0, 50);
        feed(x, "lay hour = 3;off hour = 2 or 5 < hour and hour < 7;");
        x.text();
        feed(x, "lay over < 3;off over = 3;");
        x.text();
        feed(x, "lay over = hour and hour < 2 or sort = 1;off over;");
        x.text();
        x.charter(0, 0, 10, 19, 1, 0);
        int[] first = {2, 2, 1, 0, 2, 2, 1, 2, 2, 2};
        for (int i = 0; i < 10; i++) {
            due.is(first[i], x.counts(0, 10 + i), "24: hour less the first one, " + i);
        }
        x.charter(0, 0, 20, 29, 2, 0);
        for (int i = 0; i < 10; i++) {
            due.is(i < 3 ? 0 : 1, x.counts(1, 20 + i), "24: over of its hours, " + i);
        }
        due.is(3, x.charterTold(1, 5), "24: lay hours");
        due.is(7, x.charterTold(1, 6), "24: off hours");
        x.charter(0, 0, 30, 39, 3, 0);
        due.is(0, x.counts(2, 31), "24: lay till over is 2");
        due.is(1, x.counts(2, 32), "24: off where over is not 0");
        x.right(0, 35, 1);
        due.is(0, x.counts(2, 35), "24: an hour that is put right");
        due.is(3, x.charterTold(2, 5), "24: counted anew");
        x.right(0, 30, 1);
        due.is(0, x.counts(2, 31), "24: over 1 of hour 1");
        // lay goes ahead of off
        feed(x, "lay 1;off 1;");
        x.text();
        x.charter(0, 0, 40, 44, 4, 0);
        due.is(0, x.counts(3, 44), "24: lay, not off");
        feed(x, "lay 0-5;off 1;");
        x.text();
        x.charter(0, 0, 45, 49, 5, 0);
        due.is(0, x.counts(4, 44 + 1), "24: what is not 0 is true");
    }

    /** Each of the 256 bytes, where only a blank can stand, where a ONE is due, and ahead of all. */
    private static void eachByte() {
        for (char b = 0; b < 256; b++) {
            boolean blank = b == 32 || b == 10;
            boolean digit = b >= '0' && b <= '9';
            String behind = "lay 1;off 1;" + b;
            String inside = "lay (" + b + "1);off 1;";
            String ahead = b + "lay 1;off 1;";
            if (blank) {
                good(behind);
                good(ahead);
            } else {
                fault(12, behind);
                fault(0, ahead);
            }
            if (blank || digit || b == '-') {
                good(inside);
            } else if (b == '(') {
                fault(8, inside);
            } else {
                fault(5, inside);
            }
        }
    }

    /** Each KEY and NAME but for one letter: another one, one less, one more. */
    private static void eachLetter() {
        String[] texts = {"@ 1;off 1;", "lay 1;@ 1;", "lay 1 @ 1;off 1;", "lay 1 @ 1;off 1;", "lay @ 1;off 1;",
            "lay @;off 1;", "lay @;off 1;", "lay @;off 1;", "lay @;off 1;", "lay @;off 1;"};
        String[] words = {"lay", "off", "or", "and", "not", "sort", "weekday", "clock", "hour", "over"};
        for (int w = 0; w < words.length; w++) {
            String word = words[w];
            String text = texts[w];
            int at = text.indexOf('@');
            good(text.replace("@", word));
            fault(at, text.replace("@", word + "x"));
            fault(at, text.replace("@", "x" + word));
            fault(at, text.replace("@", word + word));
            for (int i = 0; i < word.length(); i++) {
                String head = word.substring(0, i);
                String tail = word.substring(i + 1);
                for (char other : new char[] {'a', 'q', 'z', (char) (word.charAt(i) + 1), (char) (word.charAt(i) - 1)}) {
                    if (other != word.charAt(i)) fault(at, text.replace("@", head + other + tail));
                }
                fault(at, text.replace("@", head + tail));
                // what stands ahead of a letter that is none of a .. z is no word
                fault(at, text.replace("@", head + (char) (word.charAt(i) - 32) + tail));
            }
        }
    }

    /** Words of 7 and 8 letters, numbers of 4 and 5 digits, at the end of a tape too. */
    private static void longTokens() {
        goodLay("weekday");
        faultOfLay(0, "weekdayy");
        faultOfLay(0, "aweekday");
        faultOfLay(0, "abcdefg");
        faultOfLay(0, "abcdefgh");
        faultOfLay(7, "weekday0");
        goodLay("weekday+0");
        goodLay("0001");
        goodLay("1234+5678");
        faultOfLay(0, "00001");
        faultOfLay(5, "1234+56789");
        fault(4, "lay 99999");
        fault(8, "lay 9999");
        fault(0, "abcdefghijklmnopqrstuvwxyz");
        fault(0, "lays");
        fault(0, "12345");
        StringBuilder digits = new StringBuilder("lay ");
        while (digits.length() < 160) digits.append('7');
        fault(4, digits.toString());
        StringBuilder letters = new StringBuilder();
        while (letters.length() < 160) letters.append('a');
        fault(0, letters.toString());
    }

    /** A text that ends after n of its bytes, for each n: too early, or within a KEY. */
    private static void cutTexts() {
        String text = "lay(1<2)=-3*4;off 5;";
        for (int n = 0; n < text.length(); n++) {
            fault(n < 3 ? 0 : n == 15 || n == 16 ? 14 : n, text.substring(0, n));
            if (n != 1 && n != 2 && n != 15 && n != 16) fault(n + 2, text.substring(0, n) + " \n");
        }
        good(text);
        for (int n = 0; n < 140; n++) {
            text = text + (n % 2 == 0 ? " " : "\n");
            if (n % 20 == 0 || n == 139) good(text);
        }
        due.is(160, text.length(), "23: 160 bytes");
        fault(160, text.substring(21) + "                     ");
    }

    /** Each row of five that are open, of ( and not and - : good; a sixth one, whichever, has the fault. */
    private static void eachNest() {
        String[] openers = {"(", "not ", "-"};
        for (int rows = 0; rows < 243; rows++) {
            StringBuilder open = new StringBuilder();
            StringBuilder close = new StringBuilder();
            boolean can = true;
            int last = 0;
            for (int k = 0, rest = rows; k < 5; k++, rest /= 3) {
                int which = rest % 3;
                // a - is of a ONE, and a not is none
                can = can && !(which == 1 && last == 2);
                last = which;
                open.append(openers[which]);
                if (which == 0) close.append(")");
            }
            if (can) {
                goodLay(open + "0" + close);
                faultOfLay(open.length(), open + "(0)" + close);
                faultOfLay(open.length(), open + "-0" + close);
                faultOfLay(open.length(), open + "not 0" + close);
                // behind them nothing is open any more
                goodLay(open + "0" + close + " or " + open + "0" + close);
            }
        }
    }

    /** Till what they belong to ends: a ( till its ), a not over < and = and +, a - over its ONE alone. */
    private static void openTill() {
        goodLay("not 0 = ((((0))))");
        faultOfLay(12, "not 0 = (((((0)))))");
        goodLay("not 0 and (((((0)))))");
        goodLay("not 0 or (((((0)))))");
        goodLay("not (0) < ((((0))))");
        goodLay("(not 0) = (((((0)))))");
        goodLay("-0 = (((((0)))))");
        goodLay("-(((0))) * -((((0))))");
        faultOfLay(16, "-(((0))) * -(((((0)))))");
        goodLay("-(0 + (((0))) * (((0))))");
        faultOfLay(9, "-(0 + (((((0))))))");
        goodLay("not not 0 < (((0)))");
        faultOfLay(15, "not not 0 < ((((0))))");
        goodLay("((((0) + (0)) * (0)) - (0))");
        good("lay (((((0)))));off (((((0)))));");
        good("lay not not not not not 0;off not not not not not 0;");
        fault(24, "lay (((((0)))));off((((((0))))));");
    }

    /** What a text with a fault said is not in the next one, be it as long as it may. */
    private static void afterFaults() {
        TrampOffice x = new TrampOffice();
        x.port(10, 1);
        x.ship(0, 100, 10, 1);
        x.log(0, 0, 9);
        for (int i = 0; i < 3; i++) {
            StringBuilder long1 = new StringBuilder("lay 1;off 1");
            while (long1.length() < 158) long1.append("+1");
            feed(x, long1.toString());
            due.is(-100 - long1.length(), x.text(), "24: ends too early");
        }
        feed(x, "lay hour = 2 or hour = 3 and not over;off hour = 4 or hour = 0;");
        due.is(1, x.text(), "24: a good one behind faults");
        x.charter(0, 0, 0, 9, 1, 0);
        int[] want = {1, 2, 0, 2, 1, 2, 2, 2, 2};
        for (int hour = 0; hour < 9; hour++) {
            due.is(want[hour], x.counts(0, hour), "24: nothing is left of the faults, hour " + hour);
        }
        feed(x, "lay 1;off 1;;");
        due.is(-112, x.text(), "24: a fault behind a good text");
        for (int hour = 0; hour < 9; hour++) {
            due.is(want[hour], x.counts(0, hour), "24: the good one stays, hour " + hour);
        }
        due.is(2, x.count(3), "24: two texts");
        due.is(BAD, x.charter(0, 0, 20, 30, 2, 0), "25: no text of a fault");
    }

    /** The least and the most that a long can be, fed by each n; of its bytes no more than the n lowest. */
    private static void feedEdges() {
        long[] edges = {Long.MIN_VALUE, Long.MAX_VALUE, -1, 0, 0x3b66666f3b79616cL};
        for (long bytes : edges) {
            for (int n = 1; n <= 8; n++) {
                TrampOffice x = new TrampOffice();
                due.is(n, x.feed(n, bytes), "23: " + n + " bytes of " + bytes);
                due.is(bytes > 0 && bytes < Long.MAX_VALUE ? n < 3 ? -100 : -103 : -100, x.text(), "24: " + n + " bytes of " + bytes);
                due.is(0, x.count(5), "24: empty");
            }
        }
        TrampOffice x = new TrampOffice();
        // lay 1;of, then f 1; with bytes behind the n lowest
        x.feed(8, 0x666f3b312079616cL);
        due.is(12, x.feed(4, 0x7f7f7f7f3b312066L), "23: four of eight");
        due.is(1, x.text(), "24: no more than four came");
        due.is(BAD, x.feed(Integer.MIN_VALUE, 32), "23: n far below");
        due.is(BAD, x.feed(Integer.MAX_VALUE, 32), "23: n far above");
        for (int i = 0; i < 20; i++) {
            due.is(8 * i + 8, x.feed(8, 0x2020202020202020L), "23: till 160");
        }
        for (int n = 1; n <= 8; n++) {
            due.is(FULL, x.feed(n, 32), "23: no room for " + n);
        }
        due.is(BAD, x.feed(0, 32), "23: BAD ahead of FULL, n 0");
        due.is(BAD, x.feed(9, 32), "23: BAD ahead of FULL, n 9");
        due.is(160, x.count(5), "23: 160 bytes");
        due.is(-260, x.text(), "24: 160 blanks");
        due.is(1, x.feed(1, 32), "23: room again");
    }

    /** A fault at each place of a text: a byte that begins none, in place of each byte of it. */
    private static void eachPlace() {
        String text = "lay (1 or 2) * 3 ; off not 4 < - 5 ;";
        for (int i = 0; i < text.length(); i++) {
            String wrong = text.substring(0, i) + "?" + text.substring(i + 1);
            // what is left of a word of three letters ahead of it is no word
            int place = i;
            if (i == 1 || i == 2) place = 0;
            if (i == 8) place = 7;
            if (i == 20 || i == 21) place = 19;
            if (i == 24 || i == 25) place = 23;
            fault(place, wrong);
        }
        good(text);
    }

    public static void main(String[] args) {
        eachByte();
        eachLetter();
        longTokens();
        cutTexts();
        eachNest();
        openTill();
        afterFaults();
        feedEdges();
        eachPlace();
        feeding();
        fullOfTexts();
        tokens();
        grammar();
        open();
        longTexts();
        values();
        rows();
        due.end();
    }
}
