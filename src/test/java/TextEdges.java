import java.util.ArrayList;
import java.util.List;

/** The boundary cases of what Terms III says of REIGNS, TEXTS and FAULTS, and of promises 10 to 14. */
final class TextEdges {
    private static final int LEAST = Integer.MIN_VALUE;
    private static final int MOST = Integer.MAX_VALUE;
    private static final String WHOLE = "sun in even;";

    private final Edges edges;

    TextEdges(Edges edges) {
        this.edges = edges;
    }

    void run() {
        reigns();
        blanks();
        blankNeeded();
        shape();
        what();
        parts();
        calendar();
        firstAlongTheText();
        noTextGoesOn();
        fourthDigit();
        endsTooSoon();
        partTwice();
        noReign();
        otherCalendar();
        outOfRange();
        feed();
        end();
        reign();
        record();
        fault();
    }

    /** REIGNS of EVEN: a, ab, in, of, abcdef; of LEAP: l; of MOONS: m. */
    private static EclipseHouse house() {
        EclipseHouse x = new EclipseHouse();
        for (String name : new String[] {"a", "ab", "in", "of", "abcdef"}) {
            Texts.reign(x, name, 0, 100);
        }
        Texts.reign(x, "l", 1, 100);
        Texts.reign(x, "m", 2, 100);
        return x;
    }

    private void isFault(String text, int fault, int place) {
        EclipseHouse x = house();
        String shown = text.replace("\n", "\\n");
        edges.is("record of \"" + shown + "\"", Texts.record(x, text, 0), fault == 0 ? 0 : -1);
        edges.is("fault(0) of \"" + shown + "\"", x.fault(0), fault);
        edges.is("fault(1) of \"" + shown + "\"", x.fault(1), place);
    }

    private void isWhole(String text) {
        isFault(text, 0, -1);
    }

    private void reigns() {
        edges.sentence("Terms", "REIGNS, by NAMES (1 to 6 letters a .. z;");
        EclipseHouse x = new EclipseHouse();
        edges.is("no letter", Texts.reign(x, "", 0, 0), -1);
        edges.is("one letter, the first", Texts.reign(x, "a", 0, 0), 1);
        edges.is("one letter, the last", Texts.reign(x, "z", 0, 0), 2);
        edges.is("six letters", Texts.reign(x, "azazaz", 0, 0), 3);
        edges.is("seven letters", Texts.reign(x, "azazaza", 0, 0), -1);
        for (char c : new char[] {'a' - 1, 'z' + 1, 'A', 'Z', '0', '9', ' ', '\n', ';', 0, 'a' + 128, 255}) {
            edges.is("the sign " + (int) c, Texts.reign(x, String.valueOf(c), 0, 0), -1);
            edges.is("the sign " + (int) c + " behind", Texts.reign(x, "b" + c, 0, 0), -1);
            edges.is("the sign " + (int) c + " ahead", Texts.reign(x, c + "b", 0, 0), -1);
        }
        edges.is("of 20 bytes", x.feed(0x61626364, 0x61626364, 0x61626364, 0x61626364, 0x61626364), 20);
        edges.is("20 letters", x.reign(0, 0), -1);

        edges.sentence("Terms", "12 at most),");
        EclipseHouse y = new EclipseHouse();
        for (int i = 1; i <= 12; i++) {
            edges.is("REIGN " + i, Texts.reign(y, "r" + (char) ('a' + i), i % 3, 50 * i), i);
        }
        edges.is("REIGN 13", Texts.reign(y, "zz", 0, 0), -1);
        edges.is("the first one holds", Texts.record(y, "sun year 1 of rb in leap;", 0), 0);
        edges.is("the 12th one holds", Texts.record(y, "sun year 1 of rm in even;", 0), 1);
        edges.is("the 13th one is none", Texts.record(y, "sun year 1 of zz in even;", 0), -1);

        edges.sentence("Terms", "begin with a year of a CALENDAR (0 .. 600).");
        EclipseHouse z = new EclipseHouse();
        edges.is("year -1", Texts.reign(z, "a", 0, -1), -1);
        edges.is("year 0", Texts.reign(z, "a", 0, 0), 1);
        edges.is("year 601", Texts.reign(z, "b", 1, 601), -1);
        edges.is("year 600", Texts.reign(z, "b", 1, 600), 2);
        edges.is("CALENDAR -1", Texts.reign(z, "c", -1, 0), -1);
        edges.is("CALENDAR 3", Texts.reign(z, "c", 3, 0), -1);
        edges.is("CALENDAR 2", Texts.reign(z, "c", 2, 0), 3);
        for (int far : new int[] {LEAST, MOST}) {
            edges.is("CALENDAR " + far, Texts.reign(z, "d", far, 0), -1);
            edges.is("year " + far, Texts.reign(z, "d", 0, far), -1);
        }
    }

    private void blanks() {
        edges.sentence("Terms", "A RECORD's TEXT, with blanks (10, 32) between where one likes");
        isWhole(WHOLE);
        isWhole("sun\nin\neven\n;");
        isWhole("  sun \n in \n\n even \n ; \n ");
        isWhole("\nsun total\nyear\n1\nof\nab\nmonth\n2 day 3\nhour 4 in even;");
        for (char c : new char[] {0, 9, 11, 13, 31, 33, 10 + 128, 32 + 128, 255}) {
            isFault("sun" + c + "in even;", 1, 3);
            isFault("sun " + c + "in even;", 1, 4);
            isFault(c + WHOLE, 1, 0);
            isFault(WHOLE + c, 1, 12);
        }
        isWhole("sun" + " ".repeat(188) + "in even;");
        isFault(" ".repeat(200), 1, 200);
        isFault("\n", 1, 1);
    }

    private void blankNeeded() {
        edges.sentence("Terms", "(words and numbers side by side need one):");
        isFault("sunin even;", 1, 0);
        isFault("suntotal in even;", 1, 0);
        isFault("sun5 in even;", 1, 3);
        isFault("sun year5 in even;", 1, 8);
        isFault("sun year 5in even;", 1, 10);
        isFault("sun year 5of ab in even;", 1, 10);
        isFault("sun year 5month 1 in even;", 1, 10);
        isFault("sun year 123in even;", 1, 12);
        isFault("sun year 5 ofab in even;", 1, 11);
        isFault("sun year 5 of ab5 in even;", 1, 16);
        isFault("sun year 5 of abin even;", 3, 14);
        isFault("sun ineven;", 1, 4);
        isFault("sun in even5;", 1, 11);
        isWhole("sun in even;");
        isWhole("sun in even ;");
    }

    private void shape() {
        edges.sentence("Terms", "WHAT { PART } in CALENDAR ;");
        isWhole(WHOLE);
        isWhole("sun year 1 month 2 day 3 hour 4 in even;");
        isFault("", 1, 0);
        isFault("in even;", 1, 0);
        isFault("year 1 sun in even;", 1, 0);
        isFault("sun year 1 month 2 day 3 hour 4 even;", 1, 32);
        isFault("sun even;", 1, 4);
        isFault("sun in;", 1, 6);
        isFault("sun in year 1 even;", 1, 7);
        isFault("sun in even year 1;", 1, 12);
        isFault("sun in even in even;", 1, 12);
        isFault("sun in even leap;", 1, 12);
        isFault("sun in even", 1, 11);
        isFault("sun in even:", 1, 11);
        isFault("sun in even;;", 1, 12);
        isFault("sun in even;sun in even;", 1, 12);
        isFault("sun in even; 1", 1, 13);
        isFault("sun ; in even;", 1, 4);
    }

    private void what() {
        edges.sentence("Terms", "WHAT: sun or moon, perhaps with total, ring or part behind sun, whole or half behind moon.");
        for (String w : new String[] {"sun", "moon", "sun total", "sun ring", "sun part", "moon whole", "moon half"}) {
            isWhole(w + " in even;");
            isWhole(w + " hour 6 in even;");
        }
        for (String w : new String[] {"Sun", "SUN", "moo", "su", "n", "suns", "moons", "total", "star", "gun", "sin", "sum", "noon"}) {
            isFault(w + " in even;", 1, 0);
        }
        for (String w : new String[] {"whole", "half", "tota", "totals", "rin", "rings", "par", "parts", "sun", "moon"}) {
            isFault("sun " + w + " in even;", 1, 4);
        }
        for (String w : new String[] {"total", "ring", "part", "whol", "wholes", "hal", "halfs", "moon", "sun"}) {
            isFault("moon " + w + " in even;", 1, 5);
        }
        isFault("sun total ring in even;", 1, 10);
        isFault("moon half half in even;", 1, 10);
        isFault("sun hour 6 total in even;", 1, 11);
    }

    private static void orders(List<String> left, String text, List<String> found) {
        if (left.isEmpty()) {
            found.add(text + " in even;");
        }
        for (String part : left) {
            List<String> rest = new ArrayList<>(left);
            rest.remove(part);
            orders(rest, text + " " + part, found);
        }
    }

    private void parts() {
        edges.sentence("Terms", "PARTS: year N, perhaps with of NAME; month N; day N; hour N");
        for (String name : new String[] {"a", "ab", "in", "of", "abcdef"}) {
            isWhole("sun year 1 of " + name + " in even;");
            isWhole("sun year 1 of " + name + " month 1 in even;");
        }
        isFault("sun of ab in even;", 1, 4);
        isFault("sun year of ab in even;", 1, 9);
        isFault("sun year 1 ab in even;", 1, 11);
        isFault("sun year 1 of ab of ab in even;", 1, 17);
        isFault("sun month 1 of ab in even;", 1, 12);
        isFault("sun day 1 of ab in even;", 1, 10);
        isFault("sun hour 1 of ab in even;", 1, 11);
        isFault("sun year 1 month 1 of ab in even;", 1, 19);
        for (String w : new String[] {"yea", "years", "mont", "months", "da", "days", "hou", "hours", "minute", "dear", "may", "four"}) {
            isFault("sun " + w + " 1 in even;", 1, 4);
        }

        edges.sentence("Terms", "(numbers of 1 to 3 digits),");
        isFault("sun year in even;", 1, 9);
        isFault("sun year ;", 1, 9);
        isFault("sun year -1 in even;", 1, 9);
        isFault("sun year +1 in even;", 1, 9);
        isFault("sun year / in even;", 1, 9);
        isFault("sun year : in even;", 1, 9);
        isFault("sun year 1 2 in even;", 1, 11);
        for (String n : new String[] {"0", "9", "00", "10", "99", "000", "007", "100", "999"}) {
            isWhole("sun year " + n + " in even;");
        }
        isWhole("sun month 001 day 01 hour 000 in even;");
        isFault("sun year 1000 in even;", 1, 12);
        isFault("sun year 0000 in even;", 1, 12);

        edges.sentence("Terms", "each once at most, in any order.");
        List<String> found = new ArrayList<>();
        orders(List.of("year 1 of ab", "month 2", "day 3", "hour 4"), "moon", found);
        orders(List.of("year 1", "month 2", "day 3"), "sun ring", found);
        for (String text : found) {
            isWhole(text);
        }
        edges.is("orders of four and of three", found.size(), 30);
        isFault("sun year 1 year 1 in even;", 2, 11);
    }

    private void calendar() {
        edges.sentence("Terms", "CALENDAR: even, leap, moons.");
        isWhole("sun in even;");
        isWhole("sun in leap;");
        isWhole("sun in moons;");
        for (String w : new String[] {"moon", "eve", "evens", "lea", "leaps", "odd", "sun", "in", "Even", "0", "1", ";", "", "oven", "heap"}) {
            isFault("sun in " + w + ";", 1, 7);
        }
    }

    private void firstAlongTheText() {
        edges.sentence("Terms", "FAULTS, the first along the text:");
        isFault("sun x month 0 in even;", 1, 4);
        isFault("sun month 0 x in even;", 4, 10);
        isFault("sun month 14", 4, 10);
        isFault("sun month 14in even;", 4, 10);
        isFault("sun day 1 day 0 in even;", 2, 10);
        isFault("sun day 0 day 1 in even;", 4, 8);
        isFault("sun year 1 of zz hour 24 in even;", 3, 14);
        isFault("sun hour 24 year 1 of zz in even;", 4, 9);
        isFault("sun year 1 of zz year 1 in even;", 3, 14);
        isFault("sun year 1 year 1 of zz in even;", 2, 11);
        isFault("sun year 1 of zz", 3, 14);
        isFault("sun year 1 of zz5 in even;", 3, 14);
        isFault("sun day 1 day", 2, 10);
    }

    private void noTextGoesOn() {
        edges.sentence("Terms", "1 the first byte with which no TEXT goes on (words and numbers whole, at their first byte;");
        isFault("sux in even;", 1, 0);
        isFault("sun inn even;", 1, 4);
        isFault("sun in evex;", 1, 7);
        isFault("sun yearx 1 in even;", 1, 4);
        isFault("sun 5 in even;", 1, 4);
        isFault("sun 1234 in even;", 1, 4);
        isFault("sun year 12 34 in even;", 1, 12);
        isFault("sun year 12 3456 in even;", 1, 12);
        isFault("sun in 55;", 1, 7);
        isFault("sun in even; even", 1, 13);
        isFault("sun year 1 of 22 in even;", 1, 14);
        isFault("sun year 1 of ;", 1, 14);
        isFault("sunX in even;", 1, 3);
        isFault("sunx in even;", 1, 0);
        isFault("sun year 1X in even;", 1, 10);
        isFault("sun year 1x in even;", 1, 10);
        isFault("sun year 1 of abcdefg in even;", 1, 14);
        isFault("sun year 1 of in even;", 1, 17);
        isFault("s\u00f5n in even;", 1, 0);
        isFault("\u00f3un in even;", 1, 0);
    }

    private void fourthDigit() {
        edges.sentence("Terms", "a 4th digit at itself;");
        isFault("sun year 1234 in even;", 1, 12);
        isFault("sun year 0001 in even;", 1, 12);
        isFault("sun year 12345 in even;", 1, 12);
        isFault("sun year 1234", 1, 12);
        isFault("sun year 1234in even;", 1, 12);
        isFault("sun\nday\n  0010 in even;", 1, 13);
        isFault("sun hour 00" + "0".repeat(150), 1, 12);
    }

    private void endsTooSoon() {
        edges.sentence("Terms", "at the text's length, if it ends too soon);");
        String[] signs = {"sun", " ", "total", " ", "year", " ", "12", " ", "of", " ", "ab", "\n", "month", " ", "3", " ", "day", "  ", "4",
            " ", "hour", " ", "5", " ", "in", " ", "even", " ", ";"};
        String text = "";
        for (String sign : signs) {
            boolean hasHalves = Character.isLetter(sign.charAt(0)) && !sign.equals("ab");
            for (int n = 0; n < sign.length(); n++) {
                // The beginning of a word alone is another word, which is told at its first byte.
                boolean isHalf = n > 0 && hasHalves;
                isFault(text + sign.substring(0, n), 1, isHalf ? text.length() : text.length() + n);
            }
            text += sign;
        }
        isWhole(text);
        isFault("sun" + " ".repeat(197), 1, 200);
        isFault(" ".repeat(189) + "sun in even", 1, 200);
        isWhole(" ".repeat(188) + "sun in even;");
    }

    private void partTwice() {
        edges.sentence("Terms", "2 a PART that is there already, at its word;");
        isFault("sun year 1 year 2 in even;", 2, 11);
        isFault("sun year 1 of ab year 1 of ab in even;", 2, 17);
        isFault("sun month 1 month 1 in even;", 2, 12);
        isFault("sun day 1 day 1 in even;", 2, 10);
        isFault("sun hour 0 hour 0 in even;", 2, 11);
        isFault("sun hour 0\n\nhour", 2, 12);
        isFault("sun hour 0 hour 99 in even;", 2, 11);
        isFault("sun hour 0 hour x", 2, 11);
        isFault("sun hour 0 hours", 1, 11);
        isFault("sun year 1 month 1 day 1 hour 1 year 1 in even;", 2, 32);
        isFault("sun year 1 month 1 day 1 hour 1 hour 1 in even;", 2, 32);
        isFault("sun year 5year 6 in even;", 1, 10);
    }

    private void noReign() {
        edges.sentence("Terms", "3 a NAME that is no REIGN's,");
        isFault("sun year 1 of b in even;", 3, 14);
        isFault("sun year 1 of abc in even;", 3, 14);
        isFault("sun year 1 of abcde in even;", 3, 14);
        isFault("sun year 1 of bcdef in even;", 3, 14);
        isFault("sun year 1 of abcdeg in even;", 3, 14);
        isFault("sun year 1 of year 1 in even;", 3, 14);
        isFault("sun year 1 of\n\neven in even;", 3, 15);
        isFault("sun year 1 of zz in leap;", 3, 14);
        EclipseHouse x = new EclipseHouse();
        edges.is("a REIGN that was refused", Texts.reign(x, "zz", 0, 601), -1);
        edges.is("is none", Texts.record(x, "sun year 1 of zz in even;", 0), -1);
        edges.is("and a FAULT", x.fault(0), 3);
        edges.is("at it", x.fault(1), 14);
    }

    private void otherCalendar() {
        edges.sentence("Terms", "or one of another CALENDAR than the RECORD's, at it;");
        String[] calendars = {"even", "leap", "moons"};
        String[] names = {"ab", "l", "m"};
        for (int i = 0; i < 3; i++) {
            for (int j = 0; j < 3; j++) {
                isFault("sun year 1 of " + names[i] + " in " + calendars[j] + ";", i == j ? 0 : 3, i == j ? -1 : 14);
            }
        }
        isFault("sun year 1\nof  ab month 2 in leap ; ", 3, 15);

        edges.sentence("Terms", "(Of a NAME of another CALENDAR, which is told behind it: if nothing else is wrong.)");
        isFault("sun year 1 of ab in leap", 1, 24);
        isFault("sun year 1 of ab in leap;x", 1, 25);
        isFault("sun year 1 of ab in leap; 5", 1, 26);
        isFault("sun year 1 of ab in lea;", 1, 20);
        isFault("sun year 1 of ab month 14 in leap;", 4, 23);
        isFault("sun year 1 of ab year 1 in leap;", 2, 17);
        isFault("sun year 1 of ab x in leap;", 1, 17);
        isFault("sun year 1 of ab in leap;", 3, 14);
    }

    private void outOfRange() {
        edges.sentence("Terms", "4 month N not 1 .. 13, day N not 1 .. 31, hour N not 0 .. 23, at the number");
        isFault("sun month 0 in even;", 4, 10);
        isWhole("sun month 1 in even;");
        isWhole("sun month 13 in leap;");
        isFault("sun month 14 in even;", 4, 10);
        isFault("sun day 0 in even;", 4, 8);
        isWhole("sun day 1 in even;");
        isWhole("sun day 31 in even;");
        isFault("sun day 32 in even;", 4, 8);
        isWhole("sun hour 0 in even;");
        isWhole("sun hour 23 in even;");
        isFault("sun hour 24 in even;", 4, 9);
        isWhole("sun year 0 in even;");
        isWhole("sun year 999 in even;");
        isWhole("sun year 0 of ab in even;");
        isWhole("sun year 999 of ab in even;");

        edges.sentence("Terms", "(of 1 to 3 digits; of more it is 1 at the 4th).");
        isFault("sun month 00 in even;", 4, 10);
        isFault("sun month 000 in even;", 4, 10);
        isFault("sun month 999 in even;", 4, 10);
        isFault("sun hour 024 in even;", 4, 9);
        isFault("sun month 0000 in even;", 1, 13);
        isFault("sun day 9999 in even;", 1, 11);
        isFault("sun hour 2400 in even;", 1, 12);
    }

    private void feed() {
        edges.sentence("Promise 10", "Twenty bytes come behind those on the tape, of each number the highest first: how many there are;");
        EclipseHouse x = new EclipseHouse();
        edges.is("on an empty tape", x.feed(0x73756e20, 0x6d6f6e74, 0x68203120, 0x696e2065, 0x76656e3b), 20);
        edges.is("sun month 1 in even;", x.record(0), 0);
        x.feed(0x73756e20, 0x6d6f6e74, 0x68203120, 0x20202020, 0x20202020);
        edges.is("behind 15", x.end(15) ? x.feed(0x20202020, 0x20696e20, 0x6c656170, 0x3b202020, 0x20202020) : 0, 35);
        edges.is("sun month 1 in leap;, fed in two pieces", x.record(0), 1);
        x.feed(0xf3000000, 0, 0, 0, 0);
        edges.is("a byte above 127 is no letter", x.record(0), -1);
        edges.is("at its place", x.fault(1), 0);
        x.feed(-1, -1, -1, -1, -1);
        edges.is("bytes of 255", x.record(0), -1);
        edges.is("at its place", x.fault(1), 0);
        x.feed(0x20202020, 0x20202020, 0x20202020, 0x20202020, 0x20202073);
        edges.is("the lowest byte of the last number", x.record(0), -1);
        edges.is("is the 20th", x.fault(1), 19);

        edges.sentence("Promise 10", "NONE, doing nothing, if there would be more than 200.");
        EclipseHouse y = new EclipseHouse();
        for (int i = 1; i <= 10; i++) {
            edges.is("feed " + i, y.feed(0x20202020, 0x20202020, 0x20202020, 0x20202020, 0x20202020), 20 * i);
        }
        edges.is("on a full tape", y.feed(1, 1, 1, 1, 1), -1);
        edges.is("200 are there", y.end(200), true);
        edges.is("no more", y.end(201), false);
        edges.is("on 181", y.end(181) ? y.feed(1, 1, 1, 1, 1) : 0, -1);
        edges.is("181 stay, no more", y.end(182), false);
        edges.is("181 stay", y.end(181), true);
        edges.is("nothing of it came", y.record(0), -1);
        edges.is("blanks alone", y.fault(1), 181);
        for (int i = 1; i <= 9; i++) {
            y.feed(0x20202020, 0x20202020, 0x20202020, 0x20202020, 0x20202020);
        }
        edges.is("on 180", y.feed(0x20202020, 0x2073756e, 0x20696e20, 0x6576656e, 0x3b202020), 200);
        edges.is("a RECORD of 200 bytes", y.record(0), 0);
    }

    private void end() {
        edges.sentence("Promise 11", "The tape has its first n bytes alone: true;");
        EclipseHouse x = new EclipseHouse();
        edges.is("none of none", x.end(0), true);
        x.feed(0x73756e20, 0x696e2065, 0x76656e3b, 0x3b3b3b3b, 0x3b3b3b3b);
        edges.is("all of 20", x.end(20), true);
        edges.is("19 of 20", x.end(19), true);
        edges.is("12 of 19", x.end(12), true);
        edges.is("the first ones", x.record(0), 0);
        x.feed(0, 0, 0, 0, 0);
        edges.is("none of 20", x.end(0), true);
        edges.is("an empty tape", x.feed(0x73756e20, 0x696e2065, 0x76656e3b, 0x20202020, 0x20202020), 20);
        edges.is("has nothing of before", x.record(0), 1);

        edges.sentence("Promise 11", "false, doing nothing, if it has not so many, or n is below 0.");
        edges.is("one of none", x.end(1), false);
        edges.is("below 0, of none", x.end(-1), false);
        x.feed(0x73756e20, 0x696e2065, 0x76656e3b, 0x20202020, 0x20202020);
        for (int n : new int[] {21, -1, -20, LEAST, MOST}) {
            edges.is("end(" + n + ") of 20", x.end(n), false);
        }
        edges.is("20 stay", x.feed(0x20202020, 0x20202020, 0x20202020, 0x20202020, 0x20202020), 40);
        edges.is("the same ones", x.record(0), 2);
        x.feed(0x73756e20, 0x696e2065, 0x76656e3b, 0x78202020, 0x20202020);
        edges.is("cut to 12", x.end(12), true);
        edges.is("13 are no more there", x.end(13), false);
        edges.is("12 stay", x.end(12), true);
    }

    private void reign() {
        edges.sentence("Promise 12", "The tape's bytes (they go, in any case) are the NAME of a REIGN that begins with a year of a CALENDAR: "
            + "how many there are;");
        EclipseHouse x = new EclipseHouse();
        edges.is("the first", Texts.reign(x, "a", 0, 0), 1);
        edges.is("the tape went", x.end(1), false);
        edges.is("the second", Texts.reign(x, "b", 2, 600), 2);
        for (String name : new String[] {"a", "abcdefg", "A", "a b"}) {
            edges.is("refused: " + name, Texts.reign(x, name, 0, 0), -1);
            edges.is("the tape of " + name + " went", x.end(1), false);
        }
        edges.is("refused: a CALENDAR", Texts.reign(x, "c", 3, 0), -1);
        edges.is("its tape went", x.end(1), false);
        edges.is("refused: a year", Texts.reign(x, "c", 0, 601), -1);
        edges.is("its tape went", x.end(1), false);
        edges.is("the third", Texts.reign(x, "c", 0, 0), 3);
        edges.is("no tape goes to the next", x.feed(0x73756e20, 0x696e2065, 0x76656e3b, 0x20202020, 0x20202020), 20);

        edges.sentence("Promise 12", "NONE when that can't be, or it is there.");
        EclipseHouse y = new EclipseHouse();
        edges.is("an empty tape", y.reign(0, 0), -1);
        edges.is("a", Texts.reign(y, "a", 0, 10), 1);
        edges.is("a is there", Texts.reign(y, "a", 0, 10), -1);
        edges.is("a is there, with another year", Texts.reign(y, "a", 0, 11), -1);
        edges.is("a is there, of another CALENDAR", Texts.reign(y, "a", 1, 10), -1);
        edges.is("aa is not there", Texts.reign(y, "aa", 0, 10), 2);
        edges.is("the first a holds", Texts.record(y, "sun year 1 of a in even;", 0), 0);
        likeNames();
        for (int i = 3; i <= 12; i++) {
            Texts.reign(y, "r" + (char) ('a' + i), 0, 0);
        }
        edges.is("12 are there", Texts.reign(y, "new", 0, 0), -1);
        edges.is("its tape went", y.end(1), false);
        edges.is("one of 12 is there", Texts.reign(y, "aa", 0, 0), -1);
        edges.is("its tape went", y.end(1), false);
    }

    /** NAMES that a careless key would take for one another. */
    private void likeNames() {
        String[][] alike = {{"a", "aa", "aaa", "aaaa", "aaaaa", "aaaaaa", "b", "ba", "ab"},
            {"abcdef", "bbcdef", "ebcdef", "ibcdef", "qbcdef", "abcdee", "fedcba"}, {"r", "ab", "aq", "q", "ba", "qa", "z", "zzzzzz", "azzzzz"}};
        for (String[] names : alike) {
            EclipseHouse x = new EclipseHouse();
            for (int i = 0; i < names.length; i++) {
                edges.is(names[i] + " is not there", Texts.reign(x, names[i], 0, 0), i + 1);
            }
            for (String name : names) {
                edges.is(name + " is there", Texts.reign(x, name, 0, 0), -1);
            }
        }
    }

    private void record() {
        edges.sentence("Promise 13", "The tape (it goes) is a RECORD, of a place: its number (from 0 on);");
        EclipseHouse x = new EclipseHouse();
        for (int i = 0; i < 8; i++) {
            edges.is("RECORD " + i, Texts.record(x, WHOLE, i % 2 == 0 ? 720 : -720), i);
            edges.is("the tape went", x.end(1), false);
        }
        x.drop(3);
        edges.is("the number is that of the last, again", Texts.record(x, WHOLE, 0), 7);

        edges.sentence("Promise 13", "-1 with a FAULT;");
        EclipseHouse y = new EclipseHouse();
        edges.is("an empty tape", y.record(0), -1);
        edges.is("a FAULT", Texts.record(y, "sun", 0), -1);
        edges.is("its tape went", y.end(1), false);
        edges.is("it is no RECORD", y.drop(0), -1);
        edges.is("farthest west", Texts.record(y, "sun", -720), -1);
        edges.is("farthest east", Texts.record(y, "sun", 720), -1);
        edges.is("a whole one is the first", Texts.record(y, WHOLE, 0), 0);

        edges.sentence("Promise 13", "-2 east can't be, or there are 8 (the tape goes, too).");
        EclipseHouse z = new EclipseHouse();
        for (int east : new int[] {-721, 721, LEAST, MOST}) {
            edges.is("east " + east, Texts.record(z, WHOLE, east), -2);
            edges.is("its tape went", z.end(1), false);
            edges.is("east " + east + " with a wrong text", Texts.record(z, "x", east), -2);
            edges.is("its tape went", z.end(1), false);
        }
        edges.is("none is a RECORD", z.drop(0), -1);
        for (int i = 0; i < 8; i++) {
            edges.is("RECORD " + i, Texts.record(z, WHOLE, 0), i);
        }
        edges.is("a ninth", Texts.record(z, WHOLE, 0), -2);
        edges.is("its tape went", z.end(1), false);
        edges.is("a ninth with a wrong text", Texts.record(z, "x", 0), -2);
        edges.is("its tape went", z.end(1), false);
        edges.is("a ninth of no place", Texts.record(z, WHOLE, 721), -2);
        edges.is("there are 8", z.drop(7), 7);
        edges.is("room for one", Texts.record(z, WHOLE, 0), 7);
        edges.is("and no more", Texts.record(z, WHOLE, 0), -2);
    }

    private void isFaultOf(EclipseHouse x, String when, int fault, int place) {
        edges.is(when + ", fault(0)", x.fault(0), fault);
        edges.is(when + ", fault(1)", x.fault(1), place);
    }

    private void fault() {
        edges.sentence("Promise 14", "Of the latest record() that was not -2: its FAULT (0; 0 without, and ahead of any), "
            + "its place (1; NONE without).");
        EclipseHouse x = new EclipseHouse();
        isFaultOf(x, "ahead of any", 0, -1);
        Texts.record(x, "sun", 721);
        isFaultOf(x, "ahead of any but -2", 0, -1);
        Texts.record(x, "sun hour 24 in even;", 0);
        isFaultOf(x, "a FAULT", 4, 9);
        Texts.record(x, WHOLE, 721);
        isFaultOf(x, "-2 behind a FAULT", 4, 9);
        Texts.reign(x, "A", 0, 0);
        x.drop(0);
        x.means(0, 0);
        isFaultOf(x, "other refused calls behind a FAULT", 4, 9);
        Texts.record(x, "x", 0);
        isFaultOf(x, "another FAULT", 1, 0);
        Texts.record(x, WHOLE, 0);
        isFaultOf(x, "without", 0, -1);
        Texts.record(x, "x", 721);
        isFaultOf(x, "-2 behind a whole one", 0, -1);
        for (int i = 0; i < 6; i++) {
            Texts.record(x, WHOLE, 0);
        }
        Texts.record(x, "sun month 14 in even;", 0);
        isFaultOf(x, "a FAULT with room for one", 4, 10);
        x.drop(0);
        isFaultOf(x, "a RECORD's going", 4, 10);
        Texts.record(x, WHOLE, 0);
        Texts.record(x, WHOLE, 0);
        isFaultOf(x, "the eighth", 0, -1);
        Texts.record(x, "x", 0);
        isFaultOf(x, "-2 of a ninth", 0, -1);

        edges.sentence("Promise 14", "NONE for another what.");
        EclipseHouse y = new EclipseHouse();
        for (int what : new int[] {-1, 2, 3, LEAST, MOST}) {
            edges.is("fault(" + what + ") ahead of any", y.fault(what), -1);
        }
        Texts.record(y, "sun month 14 in even;", 0);
        for (int what : new int[] {-1, 2, 3, LEAST, MOST}) {
            edges.is("fault(" + what + ") with one", y.fault(what), -1);
        }
    }
}
