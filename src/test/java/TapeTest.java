/** Promises 10 to 12: feed, end, reign. */
public final class TapeTest {
    private static final Due DUE = new Due("TapeTest");

    public static void main(String[] args) {
        feed();
        order();
        end();
        reign();
        mostReigns();
        likeNames();
        DUE.finish();
    }

    private static void feed() {
        EclipseHouse x = new EclipseHouse();
        for (int i = 1; i <= 10; i++) {
            DUE.is("feed " + i, x.feed(0, 0, 0, 0, 0), 20 * i);
        }
        DUE.is("feed 11", x.feed(1, 1, 1, 1, 1), -1);
        DUE.is("200 stay", x.end(200), true);
        DUE.is("181", x.end(181), true);
        DUE.is("181 and 20 are too many", x.feed(0, 0, 0, 0, 0), -1);
        DUE.is("181 stay", x.end(182), false);
        x.end(180);
        DUE.is("180 and 20", x.feed(0, 0, 0, 0, 0), 200);
    }

    /** The highest byte first, and the numbers in their order: seen through a text. */
    private static void order() {
        EclipseHouse x = new EclipseHouse();
        DUE.is("twenty bytes", x.feed(0x73756e20, 0x6d6f6e74, 0x68203120, 0x696e2065, 0x76656e3b), 20);
        DUE.is("sun month 1 in even;", x.record(0), 0);
        x.feed(0x73756e20, 0x6d6f6e74, 0x68203120, 0x68736f75, 0xff000000);
        x.end(15);
        x.feed(0x6f757220, 0x3320696e, 0x20657665, 0x6e3b2020, 0x20202020);
        DUE.is("fed in two pieces", x.end(29), true);
        DUE.is("sun month 1 hsoour 3 in even;", x.record(0), -1);
        DUE.is("its fault", x.fault(1), 12);
        x.feed(0xf3f5ee20, -1, -1, -1, -1);
        DUE.is("high bits count", x.record(0), -1);
        DUE.is("high bits' fault", x.fault(1), 0);
    }

    private static void end() {
        EclipseHouse x = new EclipseHouse();
        DUE.is("end(0) of nothing", x.end(0), true);
        DUE.is("end(1) of nothing", x.end(1), false);
        x.feed(0, 0, 0, 0, 0);
        for (int n : new int[] {21, -1, Integer.MIN_VALUE, Integer.MAX_VALUE}) {
            DUE.is("end(" + n + ")", x.end(n), false);
        }
        DUE.is("as many as there are", x.end(20), true);
        DUE.is("cut", x.end(7), true);
        DUE.is("cut once more", x.end(8), false);
        DUE.is("behind the cut", x.feed(0, 0, 0, 0, 0), 27);
    }

    private static void reign() {
        EclipseHouse x = new EclipseHouse();
        DUE.is("one letter", Texts.reign(x, "z", 0, 0), 1);
        DUE.is("the tape went", x.end(1), false);
        DUE.is("six letters", Texts.reign(x, "abcdef", 2, 600), 2);
        DUE.is("a beginning of it", Texts.reign(x, "abcde", 1, 600), 3);
        DUE.is("a word of the texts", Texts.reign(x, "sun", 1, 5), 4);
        DUE.is("there already", Texts.reign(x, "z", 0, 0), -1);
        DUE.is("there, of another CALENDAR and year", Texts.reign(x, "z", 1, 9), -1);
        DUE.is("the tape went, in any case", x.end(1), false);
        String[] wrong = {"", "abcdefg", "A", "a1", "1", " a", "a ", "a\n", "a b", "`", "{", "\u00e9", "a\u0000"};
        for (String name : wrong) {
            DUE.is("reign \"" + name + "\"", Texts.reign(x, name, 0, 0), -1);
            DUE.is("the tape of \"" + name + "\" went", x.end(1), false);
        }
        for (int calendar : new int[] {-1, 3, Integer.MIN_VALUE, Integer.MAX_VALUE}) {
            DUE.is("calendar " + calendar, Texts.reign(x, "q", calendar, 0), -1);
        }
        for (int year : new int[] {-1, 601, Integer.MIN_VALUE, Integer.MAX_VALUE}) {
            DUE.is("year " + year, Texts.reign(x, "q", 0, year), -1);
        }
        DUE.is("refused ones are not there", Texts.reign(x, "q", 0, 0), 5);
    }

    private static void likeNames() {
        String[][] alike = {{"a", "aa", "aaa", "aaaa", "aaaaa", "aaaaaa"}, {"r", "ab", "aq", "q", "ba", "qa"},
            {"abcdef", "bbcdef", "ebcdef", "ibcdef", "qbcdef", "zbcdef"}, {"z", "zz", "zzzzz", "zzzzzz", "azzzzz", "zzzzza"}};
        for (String[] names : alike) {
            EclipseHouse x = new EclipseHouse();
            for (int i = 0; i < names.length; i++) {
                DUE.is("a new name: " + names[i], Texts.reign(x, names[i], 0, 0), i + 1);
            }
            for (String name : names) {
                DUE.is("there already: " + name, Texts.reign(x, name, 0, 0), -1);
            }
        }
    }

    private static void mostReigns() {
        EclipseHouse x = new EclipseHouse();
        for (int i = 1; i <= 12; i++) {
            DUE.is("reign " + i, Texts.reign(x, "r" + (char) ('a' + i), i % 3, 50 * i), i);
        }
        DUE.is("reign 13", Texts.reign(x, "zz", 0, 0), -1);
        DUE.is("of 12, one that is there", Texts.reign(x, "rb", 0, 0), -1);
    }
}
