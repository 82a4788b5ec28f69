/** Promises 13 and 14: record and fault, over texts whole and wrong. */
public final class TextTest {
    private static final Due DUE = new Due("TextTest");

    public static void main(String[] args) {
        wholeTexts();
        noText();
        twice();
        noReign();
        outOfRange();
        firstOfSeveral();
        numbersAndRoom();
        faultsAnswer();
        DUE.finish();
    }

    private static EclipseHouse house() {
        EclipseHouse x = new EclipseHouse();
        Texts.reign(x, "ab", 0, 100);
        Texts.reign(x, "in", 0, 50);
        Texts.reign(x, "abcdef", 1, 50);
        return x;
    }

    private static void isFault(String text, int fault, int place) {
        EclipseHouse x = house();
        DUE.is("\"" + text + "\"", Texts.record(x, text, 0), fault == 0 ? 0 : -1);
        DUE.is("fault of \"" + text + "\"", x.fault(0), fault);
        DUE.is("place in \"" + text + "\"", x.fault(1), place);
        DUE.is("records after \"" + text + "\"", x.drop(0), fault == 0 ? 0 : -1);
    }

    private static void wholeTexts() {
        String[] whole = {"sun in even;", "moon in leap;", "sun in moons;", "sun total in even;", "sun ring in even;", "sun part in even;",
            "moon whole in even;", "moon half in even;", "sun year 0 in even;", "sun year 999 in even;", "sun year 007 in even;",
            "sun month 1 in even;", "sun month 13 in even;", "sun day 1 in even;", "sun day 31 in even;", "sun hour 0 in even;",
            "sun hour 23 in even;", "sun hour 00 in even;", "sun year 1 of ab in even;", "sun year 1 of in in even;",
            "sun year 1 of abcdef in leap;", "moon half hour 1 day 2 month 3 year 4 of ab in even;",
            "sun year 4 of ab hour 1 month 3 day 2 in even;", "  sun\n\nin \n even ; \n", "\nsun\nyear\n1\nof\nab\nin\neven\n;\n"};
        for (String text : whole) {
            isFault(text, 0, -1);
        }
    }

    private static void noText() {
        isFault("", 1, 0);
        isFault("  \n", 1, 3);
        isFault("su", 1, 0);
        isFault("sunn in even;", 1, 0);
        isFault("sun", 1, 3);
        isFault("sun ", 1, 4);
        isFault("Sun in even;", 1, 0);
        isFault("sunX in even;", 1, 3);
        isFault("gun in even;", 1, 0);
        isFault("noon in even;", 1, 0);
        isFault("sun dear 5 in even;", 1, 4);
        isFault("sun an even;", 1, 4);
        isFault("sun in seen;", 1, 7);
        isFault("sun in heap;", 1, 7);
        isFault("sun in soons;", 1, 7);
        isFault("5 in even;", 1, 0);
        isFault("; in even;", 1, 0);
        isFault("sun;", 1, 3);
        isFault("sun 5 in even;", 1, 4);
        isFault("sun 1234 in even;", 1, 4);
        isFault("sun whole in even;", 1, 4);
        isFault("sun half in even;", 1, 4);
        isFault("moon ring in even;", 1, 5);
        isFault("moon part in even;", 1, 5);
        isFault("sun total total in even;", 1, 10);
        isFault("sun year 1 total in even;", 1, 11);
        isFault("sun moon in even;", 1, 4);
        isFault("sun year", 1, 8);
        isFault("sun year ", 1, 9);
        isFault("sun year x in even;", 1, 9);
        isFault("sun year ; in even;", 1, 9);
        isFault("sun years 5 in even;", 1, 4);
        isFault("sun year5 in even;", 1, 8);
        isFault("sun year5678 in even;", 1, 8);
        isFault("sun year 5in even;", 1, 10);
        isFault("sun year 5of ab in even;", 1, 10);
        isFault("sun year 5year 6 in even;", 1, 10);
        isFault("sun year 1234 in even;", 1, 12);
        isFault("sun year 0001 in even;", 1, 12);
        isFault("sun month 1234 in even;", 1, 13);
        isFault("sun hour 99999 in even;", 1, 12);
        isFault("sun year -1 in even;", 1, 9);
        isFault("sun year 1 of", 1, 13);
        isFault("sun year 1 of ", 1, 14);
        isFault("sun year 1 of 5 in even;", 1, 14);
        isFault("sun year 1 of; in even;", 1, 13);
        isFault("sun year 1 of abcdefg in even;", 1, 14);
        isFault("sun year 1 of ab of ab in even;", 1, 17);
        isFault("sun year 1 of in even;", 1, 17);
        isFault("sun year of ab in even;", 1, 9);
        isFault("sun of ab in even;", 1, 4);
        isFault("sun month 1 of ab in even;", 1, 12);
        isFault("sun day 1 of ab in even;", 1, 10);
        isFault("sun hour 1 of ab in even;", 1, 11);
        isFault("sun year 1 month 1 of ab in even;", 1, 19);
        isFault("sun year 1 of ab5 in even;", 1, 16);
        isFault("sun in", 1, 6);
        isFault("sun in ", 1, 7);
        isFault("sun in ;", 1, 7);
        isFault("sun in odd;", 1, 7);
        isFault("sun in moon;", 1, 7);
        isFault("sun in even", 1, 11);
        isFault("sun in even ", 1, 12);
        isFault("sun in even in even;", 1, 12);
        isFault("sun in even year 1;", 1, 12);
        isFault("sun in even;;", 1, 12);
        isFault("sun in even; x", 1, 13);
        isFault("sun in even; 5", 1, 13);
        isFault("sun\tin even;", 1, 3);
        isFault("sun\rin even;", 1, 3);
        isFault("sun\u0000in even;", 1, 3);
        isFault("sun \u00ff in even;", 1, 4);
        isFault("sun \u00f3\u00f5 in even;", 1, 4);
        isFault("sun year 1 month 1 day 1 hour 1 x in even;", 1, 32);
        isFault("sun year 1 month 1 day 1 hour 1", 1, 31);
    }

    private static void twice() {
        isFault("sun year 5 year 6 in even;", 2, 11);
        isFault("sun year 5 of ab year 6 in even;", 2, 17);
        isFault("sun month 5 month 5 in even;", 2, 12);
        isFault("sun day 5 day 5 in even;", 2, 10);
        isFault("sun hour 0 hour 0 in even;", 2, 11);
        isFault("sun year 0 month 1 year", 2, 19);
        isFault("sun year 1 month 1 day 1 hour 1 day 1 in even;", 2, 32);
    }

    private static void noReign() {
        isFault("sun year 1 of zz in even;", 3, 14);
        isFault("sun year 1 of a in even;", 3, 14);
        isFault("sun year 1 of abc in even;", 3, 14);
        isFault("sun year 1 of year 2 in even;", 3, 14);
        isFault("sun year 1 of zz", 3, 14);
        isFault("sun year 1 of ab in leap;", 3, 14);
        isFault("sun year 1 of ab in moons;", 3, 14);
        isFault("sun year 1 of abcdef in even;", 3, 14);
        isFault("sun year 1\nof  ab month 2 in leap ; ", 3, 15);
        isFault("sun year 1 of ab in leap", 1, 24);
        isFault("sun year 1 of ab in leap; x", 1, 26);
        isFault("sun year 1 of ab month 14 in leap;", 4, 23);
        isFault("sun year 1 of ab year 1 in leap;", 2, 17);
    }

    private static void outOfRange() {
        isFault("sun month 0 in even;", 4, 10);
        isFault("sun month 14 in even;", 4, 10);
        isFault("sun month 000 in even;", 4, 10);
        isFault("sun month 999 in even;", 4, 10);
        isFault("sun day 0 in even;", 4, 8);
        isFault("sun day 32 in even;", 4, 8);
        isFault("sun hour 24 in even;", 4, 9);
        isFault("sun hour 024 in even;", 4, 9);
    }

    private static void firstOfSeveral() {
        isFault("sun month 14in even;", 4, 10);
        isFault("sun month 14", 4, 10);
        isFault("sun day 32 day 1 in even;", 4, 8);
        isFault("sun day 1 day 32 in even;", 2, 10);
        isFault("sun hour 24 year 1 of zz in even;", 4, 9);
        isFault("sun year 1 of zz hour 24 in even;", 3, 14);
        isFault("sun hour 24 x", 4, 9);
        isFault("sun x hour 24", 1, 4);
    }

    private static void numbersAndRoom() {
        EclipseHouse x = new EclipseHouse();
        for (int east : new int[] {-721, 721, Integer.MIN_VALUE, Integer.MAX_VALUE}) {
            DUE.is("east " + east, Texts.record(x, "sun in even;", east), -2);
            DUE.is("the tape went", x.end(1), false);
        }
        for (int i = 0; i < 8; i++) {
            DUE.is("record " + i, Texts.record(x, "sun in even;", i % 2 == 0 ? 720 : -720), i);
            DUE.is("the tape went", x.end(1), false);
            DUE.is("a wrong one between", Texts.record(x, "sun", 0), i < 7 ? -1 : -2);
            DUE.is("the tape went", x.end(1), false);
        }
        DUE.is("a ninth", Texts.record(x, "sun in even;", 0), -2);
        DUE.is("the tape went", x.end(1), false);
        x.drop(3);
        DUE.is("room again", Texts.record(x, "sun in even;", 0), 7);
    }

    private static void faultsAnswer() {
        EclipseHouse x = new EclipseHouse();
        Texts.record(x, "sun", 721);
        DUE.is("-2 is no record: fault", x.fault(0), 0);
        DUE.is("-2 is no record: place", x.fault(1), -1);
        Texts.record(x, "sun hour 24 in even;", 0);
        DUE.is("a fault", x.fault(0), 4);
        DUE.is("its place", x.fault(1), 9);
        Texts.record(x, "sun in even;", 721);
        DUE.is("-2 leaves the fault", x.fault(0), 4);
        DUE.is("-2 leaves its place", x.fault(1), 9);
        Texts.record(x, "sun in even;", 0);
        DUE.is("a whole one: no fault", x.fault(0), 0);
        DUE.is("a whole one: no place", x.fault(1), -1);
        for (int what : new int[] {-1, 2, Integer.MIN_VALUE, Integer.MAX_VALUE}) {
            DUE.is("fault(" + what + ")", x.fault(what), -1);
        }
        for (int i = 0; i < 7; i++) {
            Texts.record(x, "sun in even;", 0);
        }
        Texts.record(x, "x", 0);
        DUE.is("-2 for 8 records leaves the fault", x.fault(0), 0);
    }
}
