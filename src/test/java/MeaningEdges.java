import java.util.ArrayList;
import java.util.List;

/** The boundary cases of what Terms III says of meaning and SLIPS, of promises 15 to 20, of NONE and of the 512 calls. */
final class MeaningEdges {
    private static final int LEAST = Integer.MIN_VALUE;
    private static final int MOST = Integer.MAX_VALUE;
    private static final int[] NO_SLOWS = {-1, 61, LEAST, MOST};
    // MOON 11010 is TOTAL on DAY 162566, at minute 535 and 19.8025 minutes later for each SLOW.
    private static final String HOUR_8 = "sun year 445 month 5 day 22 hour 8 in even;";
    private static final String HOUR_9 = "sun year 445 month 5 day 22 hour 9 in even;";
    private static final String HOUR_10 = "sun year 445 month 5 day 22 hour 10 in even;";

    private final Edges edges;

    MeaningEdges(Edges edges) {
        this.edges = edges;
    }

    void run() {
        whatAndSo();
        numbersOfDay();
        monthsEnds();
        yearsOfReigns();
        hours();
        slipsAtLeast();
        slipsOfReigns();
        means();
        meant();
        slips();
        lets();
        slow();
        noSlow();
        drop();
        none();
        calls();
    }

    private EclipseHouse with(String text, int east) {
        EclipseHouse x = new EclipseHouse();
        edges.is("record of " + text, Texts.record(x, text, east), 0);
        return x;
    }

    private void means(String text, int east, int s, int want) {
        edges.is("means, east " + east + ", SLOW " + s + ": " + text, with(text, east).means(0, s), want);
    }

    private void whatAndSo() {
        edges.sentence("Terms", "It MEANS a MOON, as SEEN from a place with SLOW s, if that is an eclipse of WHAT (and so) that is SEEN,");
        String[] what = {"sun", "moon", "sun total", "sun ring", "sun part", "moon whole", "moon half"};
        int[] midst = {504, 371, 157, 175, 172, 163, 208};
        int[] west = {529, 348, 166, 171, 192, 156, 192};
        int[] east = {536, 358, 173, 173, 190, 164, 194};
        for (int i = 0; i < what.length; i++) {
            means(what[i] + " in even;", 0, 0, midst[i]);
            means(what[i] + " in leap;", -720, 0, west[i]);
            means(what[i] + " in moons;", 720, 60, east[i]);
        }
        means("sun ring year 0 month 1 day 1 in even;", 0, 0, 1);
        means("sun total year 0 month 1 day 1 in even;", 0, 0, 0);
        means("sun part year 0 month 1 day 1 in even;", 0, 0, 0);
        means("moon year 0 month 1 day 1 in even;", 0, 0, 0);
    }

    private void numbersOfDay() {
        edges.sentence("Terms", "on a DAY with those numbers in the CALENDAR");
        means("sun year 445 month 5 day 22 in even;", 0, 0, 1);
        means("sun year 445 month 1 day 30 in leap;", 0, 0, 1);
        means("sun year 445 month 4 day 28 in moons;", 0, 0, 1);
        means("sun year 444 month 5 day 22 in even;", 0, 0, 0);
        means("sun year 446 month 5 day 22 in even;", 0, 0, 0);
        means("sun year 445 month 4 day 22 in even;", 0, 0, 0);
        means("sun year 445 month 6 day 22 in even;", 0, 0, 0);
        means("sun year 445 month 5 day 21 in even;", 0, 0, 0);
        means("sun year 445 month 5 day 23 in even;", 0, 0, 0);
        means("sun year 0 in even;", 0, 0, 2);
        means("sun year 999 in even;", 0, 0, 0);
        means("sun month 13 in leap;", 0, 0, 0);
        means("sun day 31 in even;", 0, 0, 0);
        means("sun day 31 in moons;", 0, 0, 0);
        // MOON 10951, 6209 and 5587 at the last minute of a year, and at the first one of the next.
        means("moon year 442 month 13 day 5 hour 23 in even;", -345, 0, 1);
        means("moon year 443 month 1 day 1 hour 0 in even;", -344, 0, 1);
        means("moon year 250 month 12 day 31 hour 23 in leap;", -197, 0, 1);
        means("moon year 251 month 1 day 1 hour 0 in leap;", -196, 0, 1);
        means("moon year 225 month 12 day 29 hour 23 in moons;", 26, 0, 1);
        means("moon year 226 month 1 day 1 hour 0 in moons;", 27, 0, 1);
    }

    private void monthsEnds() {
        edges.sentence("Terms", "on a DAY with those numbers in the CALENDAR");
        EclipseHouse x = new EclipseHouse();
        x.tables(9000, 0, 29866);
        Texts.record(x, "sun year 0 month 2 day 29 in leap;", 0);
        edges.is("the 29th of month 2 in LEAP", x.meant(0, 0, 0), 4);
        x.tables(9000, 0, 28265);
        Texts.record(x, "moon year 68 month 13 day 30 in moons;", 0);
        edges.is("the last of month 13 in MOONS", x.meant(1, 0, 0), 1707);
        x.tables(9000, 0, 21956);
        Texts.record(x, "sun year 63 month 13 day 5 in even;", 0);
        edges.is("the last of month 13 in EVEN", x.meant(2, 0, 0), 1582);
    }

    private void yearsOfReigns() {
        edges.sentence("Terms", "(year N of a REIGN: the year N - 1 years behind that with which it began),");
        EclipseHouse x = new EclipseHouse();
        Texts.reign(x, "now", 0, 445);
        Texts.reign(x, "later", 1, 446);
        Texts.reign(x, "first", 2, 0);
        Texts.reign(x, "last", 0, 600);
        String[] meaning = {"sun year 1 of now month 5 day 22 in even;", "sun year 0 of later month 1 day 30 in leap;",
            "sun year 446 of first month 4 day 28 in moons;"};
        for (String text : meaning) {
            int r = Texts.record(x, text, 0);
            edges.is("means: " + text, x.means(r, 0), 1);
            edges.is("meant: " + text, x.meant(r, 0, 0), 11010);
            x.drop(r);
        }
        String[] none = {"sun year 0 of now month 5 day 22 in even;", "sun year 2 of now month 5 day 22 in even;",
            "sun year 1 of later month 1 day 30 in leap;", "sun year 445 of first month 4 day 28 in moons;", "sun year 0 of first in moons;",
            "sun year 0 of last in even;", "sun year 999 of last in even;"};
        for (String text : none) {
            int r = Texts.record(x, text, 0);
            edges.is("means: " + text, x.means(r, 0), 0);
            x.drop(r);
        }
        edges.is("year 1 of first", Texts.record(x, "sun year 1 of first in moons;", 0), 0);
        edges.is("means MOON 0", x.meant(0, 0, 0), 0);
    }

    private void hours() {
        edges.sentence("Terms", "at that hour.");
        means("sun year 0 month 1 day 1 hour 6 in even;", 360 - 414, 0, 1);
        means("sun year 0 month 1 day 1 hour 6 in even;", 419 - 414, 0, 1);
        means("sun year 0 month 1 day 1 hour 6 in even;", 420 - 414, 0, 0);
        means("sun year 0 month 1 day 1 hour 7 in even;", 419 - 414, 0, 0);
        means("sun year 0 month 1 day 1 hour 17 in even;", 1020 - 414, 0, 1);
        means("sun year 0 month 1 day 1 hour 17 in even;", 1079 - 414, 0, 1);
        means("sun year 0 month 1 day 1 hour 16 in even;", 1019 - 414, 0, 1);
        means("sun hour 5 in even;", 0, 0, 0);
        means("sun hour 18 in even;", 0, 0, 0);
        means("moon hour 6 in even;", 0, 0, 0);
        means("moon hour 17 in even;", 0, 0, 0);
        // MOON 11 is a HALF at minute 1226 of DAY 162.
        means("moon year 0 month 6 day 14 hour 0 in even;", 1440 - 1226, 0, 1);
        means("moon year 0 month 6 day 13 hour 23 in even;", 1439 - 1226, 0, 1);
        means("moon year 0 month 6 day 14 hour 5 in even;", 1440 + 359 - 1226, 0, 1);
        means("moon year 0 month 6 day 13 hour 18 in even;", 1080 - 1226, 0, 1);
        means(HOUR_8, 0, 0, 1);
        means(HOUR_8, 0, 1, 0);
        means(HOUR_9, 0, 1, 1);
        means(HOUR_9, 0, 3, 1);
        means(HOUR_9, 0, 4, 0);
        means(HOUR_10, 0, 4, 1);
    }

    private void slips(String text, int east, int s, int want) {
        edges.is("slips, east " + east + ", SLOW " + s + ": " + text, with(text, east).slips(0, s), want);
    }

    private void slipsAtLeast() {
        edges.sentence("Terms", "SLIPS of a RECORD that means none: how many of its numbers have to be others (0 .. 999), at least, "
            + "so that it means some.");
        slips("sun year 0 month 1 day 1 hour 7 in even;", 0, 0, 1);
        slips("sun year 999 month 1 day 1 hour 6 in even;", 0, 0, 1);
        slips("sun hour 5 in leap;", 0, 0, 1);
        slips("moon hour 12 in leap;", 0, 0, 1);
        slips("sun year 999 in leap;", 0, 0, 1);
        slips("sun month 13 in leap;", 0, 0, 1);
        slips("sun day 31 in moons;", 0, 0, 1);
        slips("sun year 999 hour 5 in even;", 0, 0, 2);
        slips("sun year 999 month 13 hour 5 in leap;", 0, 0, 3);
        slips("sun year 999 month 13 day 31 hour 0 in leap;", 0, 0, 3);
        slips(HOUR_8, 0, 1, 1);
        slips(HOUR_10, 0, 3, 1);
    }

    /** The last eclipses of the SUN that are SEEN in east 0 with SLOW 0 are of year 483 in EVEN. */
    private void slipsOfReigns() {
        edges.sentence("Terms", "SLIPS of a RECORD that means none: how many of its numbers have to be others (0 .. 999), at least, "
            + "so that it means some.");
        EclipseHouse x = new EclipseHouse();
        Texts.reign(x, "near", 0, 484);
        Texts.reign(x, "far", 0, 485);
        String[] texts = {"sun year 0 of near in even;", "sun year 1 of near in even;", "sun year 999 of near in even;",
            "sun year 999 of near month 13 day 31 hour 0 in even;", "sun year 0 of far in even;", "sun year 1 of far in even;",
            "sun year 999 of far month 13 day 31 hour 0 in even;"};
        int[] due = {0, 1, 1, 4, -1, -1, -1};
        for (int i = 0; i < texts.length; i++) {
            int r = Texts.record(x, texts[i], 0);
            edges.is("slips: " + texts[i], x.slips(r, 0), due[i]);
        }
    }

    private void means() {
        edges.sentence("Promise 15", "How many MOONS RECORD r means with SLOW s;");
        EclipseHouse x = with("sun in even;", 0);
        edges.is("with the least SLOW", x.means(0, 0), 504);
        edges.is("with the greatest SLOW", x.means(0, 60), 497);
        edges.is("the second RECORD", Texts.record(x, "moon month 13 in moons;", 0), 1);
        edges.is("means 13", x.means(1, 30), 13);
        edges.is("the first one means as many as before", x.means(0, 0), 504);
        edges.is("the third RECORD", Texts.record(x, "sun hour 5 in even;", 0), 2);
        edges.is("means none", x.means(2, 0), 0);
        for (int i = 3; i < 8; i++) {
            Texts.record(x, "sun in even;", 0);
        }
        edges.is("the eighth RECORD", x.means(7, 60), 497);

        edges.sentence("Promise 15", "NONE when there are none such.");
        for (int r : new int[] {8, -1, LEAST, MOST}) {
            edges.is("means(" + r + ", 0)", x.means(r, 0), -1);
        }
        for (int s : NO_SLOWS) {
            edges.is("means(0, " + s + ")", x.means(0, s), -1);
        }
        edges.is("no RECORD at all", new EclipseHouse().means(0, 0), -1);
    }

    private void meant() {
        edges.sentence("Promise 16", "The i-th of these (from 0 on), the least first;");
        EclipseHouse x = with("sun in even;", 0);
        edges.is("the first", x.meant(0, 0, 0), 0);
        edges.is("the last of 504", x.meant(0, 0, 503), 11960);
        edges.is("the first with SLOW 60", x.meant(0, 60, 0), 0);
        edges.is("the last of 497", x.meant(0, 60, 496), 11960);
        Texts.record(x, "moon month 13 in moons;", 0);
        int[] due = {223, 915, 3263};
        for (int i = 0; i < due.length; i++) {
            edges.is("meant(1, 30, " + i + ")", x.meant(1, 30, i), due[i]);
        }
        edges.is("the last of 13", x.meant(1, 30, 12), 11373);

        edges.sentence("Promise 16", "NONE when there is none such.");
        edges.is("one behind the last of 504", x.meant(0, 0, 504), -1);
        edges.is("one behind the last of 497", x.meant(0, 60, 497), -1);
        edges.is("one behind the last of 13", x.meant(1, 30, 13), -1);
        for (int i : new int[] {-1, LEAST, MOST}) {
            edges.is("meant(0, 0, " + i + ")", x.meant(0, 0, i), -1);
        }
        for (int r : new int[] {2, -1, LEAST, MOST}) {
            edges.is("meant(" + r + ", 0, 0)", x.meant(r, 0, 0), -1);
        }
        for (int s : NO_SLOWS) {
            edges.is("meant(0, " + s + ", 0)", x.meant(0, s, 0), -1);
        }
        Texts.record(x, "sun hour 5 in even;", 0);
        edges.is("of a RECORD that means none", x.meant(2, 0, 0), -1);
    }

    private void slips() {
        edges.sentence("Promise 17", "SLIPS of RECORD r with SLOW s: 0 if it means some;");
        slips("sun in even;", 0, 0, 0);
        slips("moon in moons;", 720, 60, 0);
        slips("sun year 0 month 1 day 1 hour 6 in even;", 0, 0, 0);
        slips("sun year 445 in even;", 0, 0, 0);
        slips(HOUR_8, 0, 0, 0);
        slips(HOUR_8, 0, 1, 1);
        slips(HOUR_10, 0, 4, 0);
        slips(HOUR_10, 0, 6, 0);
        slips(HOUR_10, 0, 7, 1);

        edges.sentence("Promise 17", "NONE when there are none such, or no numbers at all would do.");
        EclipseHouse x = with("sun hour 5 in even;", 0);
        edges.is("RECORD 0", x.slips(0, 0), 1);
        for (int r : new int[] {1, -1, LEAST, MOST}) {
            edges.is("slips(" + r + ", 0)", x.slips(r, 0), -1);
        }
        for (int s : NO_SLOWS) {
            edges.is("slips(0, " + s + ")", x.slips(0, s), -1);
        }
        Texts.reign(x, "far", 0, 600);
        Texts.record(x, "sun year 1 of far in even;", 0);
        edges.is("a REIGN that begins behind all eclipses", x.slips(1, 0), -1);
        edges.is("it means none", x.means(1, 0), 0);
    }

    private void lets() {
        edges.sentence("Promise 18", "With how many SLOWS RECORD r means some MOON;");
        edges.is("all", with("sun in even;", 0).lets(0), 61);
        edges.is("none", with("sun hour 5 in even;", 0).lets(0), 0);
        edges.is("by MOON 0 alone", with("sun year 0 month 1 day 1 hour 6 in even;", 0).lets(0), 61);
        edges.is("SLOW 0 alone", with(HOUR_8, 0).lets(0), 1);
        edges.is("SLOWS 1 to 3", with(HOUR_9, 0).lets(0), 3);
        edges.is("SLOW 60 alone", with("sun year 445 month 5 day 23 hour 6 in even;", 80).lets(0), 1);
        edges.is("SLOWS 0 to 22, 59 and 60", with("sun year 445 month 5 in even;", 100).lets(0), 25);
        EclipseHouse x = with("sun in even;", 0);
        edges.is("the first, ahead of others", x.lets(0), 61);
        Texts.record(x, HOUR_8, 0);
        edges.is("the second", x.lets(1), 1);
        x.drop(0);
        edges.is("the second moves up", x.lets(0), 1);
        x.tables(9000, 0, 9000);
        edges.is("with other tables", x.lets(0), 0);
        x.tables(9000, 0, 36000);
        edges.is("with tables that are refused", x.lets(0), 0);
        x.tables(9000, 0, 400);
        edges.is("with the first tables again", x.lets(0), 1);

        edges.sentence("Promise 18", "NONE when there is none such.");
        for (int r : new int[] {1, -1, LEAST, MOST}) {
            edges.is("lets(" + r + ")", x.lets(r), -1);
        }
        edges.is("no RECORD at all", new EclipseHouse().lets(0), -1);
    }

    private void isSlow(String when, EclipseHouse x, int least, int greatest, int count) {
        edges.is("slow(0), " + when, x.slow(0), least);
        edges.is("slow(1), " + when, x.slow(1), greatest);
        edges.is("slow(2), " + when, x.slow(2), count);
    }

    private void slow() {
        edges.sentence("Promise 19", "The SLOWS with which all RECORDS mean some: the least (0), the greatest (1), how many (2);");
        EclipseHouse x = with("sun in even;", 0);
        isSlow("one RECORD that lets all", x, 0, 60, 61);
        Texts.record(x, "sun year 445 month 5 in even;", 100);
        isSlow("0 to 22, 59 and 60", x, 0, 60, 25);
        Texts.record(x, "sun year 445 month 5 day 22 in even;", 0);
        isSlow("of these those up to 27", x, 0, 22, 23);
        Texts.record(x, HOUR_10, 0);
        isSlow("4 to 6", x, 4, 6, 3);
        Texts.record(x, HOUR_9, -20);
        isSlow("4 alone", x, 4, 4, 1);
        isSlow("0 alone", with(HOUR_8, 0), 0, 0, 1);
        isSlow("60 alone", with("sun year 445 month 5 day 23 hour 6 in even;", 80), 60, 60, 1);
        x.drop(3);
        isSlow("2 to 4", x, 2, 4, 3);
    }

    private void noSlow() {
        edges.sentence("Promise 19", "NONE when there are none such, or for others (0 to 60 without RECORDS).");
        EclipseHouse x = new EclipseHouse();
        isSlow("without RECORDS", x, 0, 60, 61);
        for (int what : new int[] {-1, 3, LEAST, MOST}) {
            edges.is("slow(" + what + ") without RECORDS", x.slow(what), -1);
        }
        Texts.record(x, "sun", 0);
        isSlow("a FAULT is no RECORD", x, 0, 60, 61);
        Texts.record(x, "sun hour 5 in even;", 0);
        isSlow("one that lets none", x, -1, -1, -1);
        Texts.record(x, "sun in even;", 0);
        isSlow("one that lets none and one that lets all", x, -1, -1, -1);
        x.drop(0);
        isSlow("one that lets all", x, 0, 60, 61);
        Texts.record(x, HOUR_8, 0);
        isSlow("0 alone", x, 0, 0, 1);
        Texts.record(x, HOUR_9, 0);
        isSlow("0 and 1 to 3, which have none in common", x, -1, -1, -1);
        for (int what : new int[] {-1, 3, LEAST, MOST}) {
            edges.is("slow(" + what + ") with RECORDS", x.slow(what), -1);
        }
        for (int left = 2; left >= 0; left--) {
            x.drop(left);
        }
        isSlow("without RECORDS again", x, 0, 60, 61);
    }

    private void drop() {
        edges.sentence("Promise 20", "RECORD r goes, those behind it move up: how many there are;");
        String[] texts = {"sun total in even;", "sun ring in even;", "sun part in even;", "moon whole in even;", "moon half in even;",
            "sun in even;", "moon in even;", "sun hour 5 in even;"};
        int[] means = {157, 175, 172, 163, 208, 504, 371, 0};
        int[][] cases = {{0}, {7}, {3}, {0, 0}, {6, 6}, {7, 0, 5}, {0, 0, 0, 0, 0, 0, 0, 0}, {7, 6, 5, 4, 3, 2, 1, 0}};
        for (int[] gone : cases) {
            EclipseHouse x = new EclipseHouse();
            List<Integer> left = new ArrayList<>();
            for (int i = 0; i < 8; i++) {
                Texts.record(x, texts[i], 0);
                left.add(means[i]);
            }
            for (int r : gone) {
                left.remove(r);
                edges.is("drop(" + r + ")", x.drop(r), left.size());
                for (int i = 0; i < left.size(); i++) {
                    edges.is("then means(" + i + ", 0)", x.means(i, 0), left.get(i));
                }
                edges.is("none behind the last", x.means(left.size(), 0), -1);
            }
            edges.is("a new one comes behind the last", Texts.record(x, texts[6], 0), left.size());
            edges.is("and is whole", x.means(left.size(), 0), 371);
            for (int i = 0; i < left.size(); i++) {
                edges.is("those ahead of it stay: means(" + i + ", 0)", x.means(i, 0), left.get(i));
            }
        }

        nothingLeftOver();

        edges.sentence("Promise 20", "NONE when there is none such.");
        EclipseHouse x = new EclipseHouse();
        edges.is("none at all", x.drop(0), -1);
        Texts.record(x, "sun in even;", 0);
        for (int r : new int[] {1, -1, LEAST, MOST}) {
            edges.is("drop(" + r + ") of one", x.drop(r), -1);
            edges.is("it stays", x.means(0, 0), 504);
        }
        edges.is("the one goes", x.drop(0), 0);
        edges.is("it can't go again", x.drop(0), -1);
    }

    /** A RECORD that comes where another one went has nothing of it. */
    private void nothingLeftOver() {
        EclipseHouse x = new EclipseHouse();
        Texts.reign(x, "old", 0, 300);
        Texts.record(x, "sun total year 146 of old month 5 day 22 hour 10 in even;", 0);
        edges.is("of a REIGN", x.meant(0, 4, 0), 11010);
        edges.is("of a REIGN, lets", x.lets(0), 3);
        edges.is("it goes", x.drop(0), 0);
        Texts.record(x, "sun year 445 month 1 day 30 hour 8 in leap;", 0);
        edges.is("of no REIGN", x.meant(0, 0, 0), 11010);
        edges.is("of no REIGN, lets", x.lets(0), 1);
        edges.is("it goes", x.drop(0), 0);
        edges.is("a FAULT behind many PARTS", Texts.record(x, "sun total year 1 of old month 5 day 22 hour 10 in", 720), -1);
        Texts.record(x, "sun in moons;", 0);
        edges.is("of no PARTS", x.means(0, 0), 504);
        edges.is("of no PARTS, lets", x.lets(0), 61);
    }

    private void none() {
        edges.sentence("Terms", "The constants: There is none; it is refused.");
        edges.is("NONE", EclipseHouse.NONE, -1);
        edges.is("there is none", new EclipseHouse().moon(12001, 0), EclipseHouse.NONE);
        edges.is("it is refused", new EclipseHouse().reign(0, 0), EclipseHouse.NONE);
    }

    /** The dearest calls, up to the last one that is promised; those behind it have to end, whatever they answer. */
    private void calls() {
        edges.sentence("What it is", "An object is used for at most 512 calls after it has been made; what later calls answer is free.");
        EclipseHouse x = new EclipseHouse();
        int calls = 0;
        for (int i = 0; i < 8; i++) {
            x.feed(0x73756e20, 0x6d6f6e74, 0x68203120, 0x696e2065, 0x76656e3b);
            edges.is("RECORD " + i, x.record(60 * i), i);
            calls += 2;
        }
        while (calls < 508) {
            x.tables(calls, calls, calls);
            x.slow(2);
            calls += 2;
        }
        edges.is("call 509", x.tables(9000, 0, 400), true);
        edges.is("call 510", x.slow(2), 61);
        edges.is("call 511", x.moon(12000, 3), 255145576);
        edges.is("call 512", x.drop(7), 7);
        for (int i = 0; i < 100; i++) {
            x.feed(i, i, i, i, i);
            x.record(i);
            x.slow(i);
        }
    }
}
