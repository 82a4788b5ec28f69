/** Promises 15 to 20: means, meant, slips, lets, slow, drop. */
public final class MeaningTest {
    private static final Due DUE = new Due("MeaningTest");
    private static final int[] WRONG = {-1, 1, Integer.MIN_VALUE, Integer.MAX_VALUE};
    private static final int[] WRONG_SLOWS = {-1, 61, Integer.MIN_VALUE, Integer.MAX_VALUE};

    public static void main(String[] args) {
        oneMoon();
        dayAndNight();
        kinds();
        calendarsAndReigns();
        meant();
        slips();
        slipsOfReigns();
        lets();
        slow();
        tablesChange();
        drop();
        nothingLeftOver();
        wrongInputs();
        DUE.finish();
    }

    private static EclipseHouse with(String text, int east) {
        EclipseHouse x = new EclipseHouse();
        DUE.is(text, Texts.record(x, text, east), 0);
        return x;
    }

    private static void means(String text, int east, int s, int want) {
        DUE.is("means, east " + east + ", slow " + s + ": " + text, with(text, east).means(0, s), want);
    }

    /** MOON 0 is a RING at minute 414, the 7th hour of DAY 0. */
    private static void oneMoon() {
        means("sun ring year 0 month 1 day 1 hour 6 in even;", 0, 0, 1);
        means("sun ring year 0 month 1 day 1 hour 6 in leap;", 0, 60, 1);
        means("sun ring year 0 month 1 day 1 hour 6 in moons;", 0, 0, 1);
        means("sun hour 6 day 1 month 1 year 0 in even;", 0, 0, 1);
        means("sun total year 0 month 1 day 1 hour 6 in even;", 0, 0, 0);
        means("moon year 0 month 1 day 1 hour 6 in even;", 0, 0, 0);
        means("sun year 1 month 1 day 1 hour 6 in even;", 0, 0, 0);
        means("sun year 0 month 2 day 1 hour 6 in even;", 0, 0, 0);
        means("sun year 0 month 1 day 2 hour 6 in even;", 0, 0, 0);
        means("sun year 0 month 1 day 1 hour 7 in even;", 0, 0, 0);
        means("sun year 0 month 1 day 1 hour 7 in even;", 6, 0, 1);
        means("sun year 0 month 1 in even;", 0, 0, 1);
    }

    private static void dayAndNight() {
        means("sun year 0 month 1 day 1 in even;", -54, 0, 1);
        means("sun year 0 month 1 day 1 in even;", -55, 0, 0);
        means("sun year 0 month 1 day 1 in even;", -414, 0, 0);
        means("sun year 0 month 1 day 1 in even;", -720, 0, 0);
        means("sun year 0 month 1 day 1 in even;", 1079 - 414, 0, 1);
        means("sun year 0 month 1 day 1 in even;", 1080 - 414, 0, 0);
        // MOON 11 is a HALF at minute 234506: DAY 162, minute 1226, hour 20.
        means("moon half year 0 month 6 day 13 hour 20 in even;", 0, 0, 1);
        means("moon year 0 month 6 day 13 in even;", 1080 - 1226, 0, 1);
        means("moon year 0 month 6 day 13 in even;", 1079 - 1226, 0, 0);
        means("moon year 0 month 6 day 13 hour 23 in even;", 1439 - 1226, 0, 1);
        means("moon year 0 month 6 day 14 hour 0 in even;", 1440 - 1226, 0, 1);
        means("moon year 0 month 6 day 14 in even;", 1440 + 359 - 1226, 0, 1);
        means("moon year 0 month 6 day 14 in even;", 1440 + 360 - 1226, 0, 0);
        // MOON 0 with tables that make it TOTAL at minute 166, ahead of DAY 0 far in the west.
        EclipseHouse x = new EclipseHouse();
        x.tables(9000, 27000, 0);
        Texts.record(x, "sun hour 12 year 0 month 1 day 1 in even;", -720);
        DUE.is("below minute 0", x.means(0, 0), 0);
    }

    private static int count(int kind, int east, int s) {
        EclipseHouse x = new EclipseHouse();
        int total = x.many(0, 12000, 1 << kind);
        int count = 0;
        for (int n = 1; n <= total; n++) {
            if (n % 250 == 0) {
                // An object is promised for 512 calls, and an eclipse takes two.
                x = new EclipseHouse();
            }
            int minute = x.seen(x.next(0, n, 1 << kind), east, s);
            int hour = Math.floorMod(minute, 1440) / 60;
            boolean light = hour >= 6 && hour <= 17;
            count += minute >= 0 && light == kind <= 3 ? 1 : 0;
        }
        return count;
    }

    private static void kinds() {
        String[] texts = {"", "sun total", "sun ring", "sun part", "moon whole", "moon half"};
        int[] count = new int[6];
        for (int kind = 1; kind <= 5; kind++) {
            count[kind] = count(kind, 100, 30);
            means(texts[kind] + " in leap;", 100, 30, count[kind]);
        }
        means("sun in leap;", 100, 30, count[1] + count[2] + count[3]);
        means("moon in leap;", 100, 30, count[4] + count[5]);
    }

    /** MOON 11010 is TOTAL: with SLOW 4, DAY 162566, minute 614. */
    private static void calendarsAndReigns() {
        means("sun total year 445 month 5 day 22 hour 10 in even;", 0, 4, 1);
        means("sun total year 445 month 1 day 30 hour 10 in leap;", 0, 4, 1);
        means("sun total year 445 month 4 day 28 hour 10 in moons;", 0, 4, 1);
        means("sun total year 445 month 5 day 22 hour 10 in leap;", 0, 4, 0);
        EclipseHouse x = new EclipseHouse();
        Texts.reign(x, "one", 0, 445);
        Texts.reign(x, "two", 1, 400);
        Texts.reign(x, "three", 2, 446);
        Texts.reign(x, "four", 0, 0);
        String[] texts = {"sun year 1 of one month 5 day 22 hour 10 in even;", "sun year 46 of two month 1 day 30 hour 10 in leap;",
            "sun year 0 of three month 4 day 28 hour 10 in moons;", "sun year 446 of four month 5 day 22 hour 10 in even;",
            "sun year 2 of one month 5 day 22 hour 10 in even;", "sun year 0 of one month 5 day 22 hour 10 in even;",
            "sun year 445 of four month 5 day 22 hour 10 in even;", "sun year 0 of four in even;"};
        for (int i = 0; i < texts.length; i++) {
            DUE.is(texts[i], Texts.record(x, texts[i], 0), i);
            DUE.is("means: " + texts[i], x.means(i, 4), i < 4 ? 1 : 0);
            DUE.is("meant: " + texts[i], x.meant(i, 4, 0), i < 4 ? 11010 : -1);
        }
    }

    private static void meant() {
        EclipseHouse x = with("moon month 13 in moons;", 0);
        int total = x.means(0, 30);
        DUE.is("several", total > 1, true);
        int before = -1;
        for (int i = 0; i < total; i++) {
            int k = x.meant(0, 30, i);
            DUE.is("the least first", k > before, true);
            DUE.is("an eclipse of the MOON", x.moon(k, 4) >= 4, true);
            DUE.is("in month 13", x.date(x.seen(k, 0, 30) / 1440, 2, 1), 13);
            before = k;
        }
        for (int i : new int[] {total, -1, Integer.MIN_VALUE, Integer.MAX_VALUE}) {
            DUE.is("meant(0, 30, " + i + ")", x.meant(0, 30, i), -1);
        }
        EclipseHouse y = with("sun in even;", 0);
        DUE.is("first of all", y.meant(0, 0, 0), 0);
        DUE.is("last of all", y.meant(0, 0, y.means(0, 0) - 1) > 11000, true);
    }

    private static void slips(String text, int east, int s, int want) {
        DUE.is("slips, east " + east + ", slow " + s + ": " + text, with(text, east).slips(0, s), want);
    }

    private static void slips() {
        slips("sun in even;", 0, 0, 0);
        slips("sun year 0 month 1 day 1 hour 6 in even;", 0, 0, 0);
        slips("sun year 0 month 1 day 1 hour 7 in even;", 0, 0, 1);
        slips("sun year 999 month 1 day 1 hour 6 in even;", 0, 0, 1);
        slips("sun hour 5 in leap;", 0, 0, 1);
        slips("moon hour 12 in leap;", 0, 0, 1);
        slips("sun year 999 in leap;", 0, 0, 1);
        slips("sun month 13 in leap;", 0, 0, 1);
        slips("sun month 13 day 31 in even;", 0, 0, 1);
        slips("sun year 999 hour 5 in even;", 0, 0, 2);
        slips("sun year 999 month 13 hour 5 in leap;", 0, 0, 3);
        slips("sun year 999 month 13 day 31 hour 0 in moons;", 0, 0, 3);
        slips("moon year 999 month 13 day 31 hour 12 in moons;", 0, 60, 3);
        slips("sun year 445 month 5 day 22 hour 10 in even;", 0, 4, 0);
        slips("sun year 445 month 5 day 22 hour 10 in even;", 0, 3, 1);
    }

    private static void slipsOfReigns() {
        EclipseHouse x = new EclipseHouse();
        Texts.record(x, "sun in even;", 0);
        int last = x.meant(0, 0, x.means(0, 0) - 1);
        int year = x.date(x.seen(last, 0, 0) / 1440, 0, 0);
        Texts.reign(x, "near", 0, year + 1);
        Texts.reign(x, "far", 0, year + 2);
        Texts.reign(x, "farst", 0, 600);
        int[] want = {1, -1, -1, -1};
        String[] texts = {"sun year 9 of near in even;", "sun year 9 of far in even;", "sun year 0 of farst in even;",
            "sun year 999 of farst month 1 day 1 hour 6 in even;"};
        for (int i = 0; i < texts.length; i++) {
            int r = Texts.record(x, texts[i], 0);
            DUE.is("slips: " + texts[i], x.slips(r, 0), want[i]);
            DUE.is("means: " + texts[i], x.means(r, 0), 0);
            DUE.is("lets: " + texts[i], x.lets(r), 0);
        }
        // No eclipse that year 0 or a later one of it can tell is in a 13th month, nor any on a 31st day.
        int all = Texts.record(x, "sun year 999 of near month 13 day 31 hour 0 in even;", 0);
        DUE.is("all four numbers slip", x.slips(all, 0), 4);
        int r = Texts.record(x, "sun year 0 of near in even;", 0);
        DUE.is("year 0 is the one ahead of the first", x.slips(r, 0), 0);
    }

    private static void lets() {
        DUE.is("all", with("sun in even;", 0).lets(0), 61);
        DUE.is("none", with("sun hour 5 in even;", 0).lets(0), 0);
        // MOON 11010: minute 535 and 19.8025 for each SLOW; hour 10 is 600 to 659, SLOWS 4 to 6.
        DUE.is("three", with("sun year 445 month 5 day 22 hour 10 in even;", 0).lets(0), 3);
        DUE.is("hour 9, 540 to 599: SLOWS 1 to 3", with("sun year 445 month 5 day 22 hour 9 in even;", 0).lets(0), 3);
        DUE.is("hour 8, 480 to 539: SLOW 0", with("sun year 445 month 5 day 22 hour 8 in even;", 0).lets(0), 1);
        DUE.is("hours to 17, below 1080: SLOWS 0 to 27", with("sun year 445 month 5 day 22 in even;", 0).lets(0), 28);
    }

    private static void isSlow(String when, EclipseHouse x, int least, int greatest, int count) {
        DUE.is("least, " + when, x.slow(0), least);
        DUE.is("greatest, " + when, x.slow(1), greatest);
        DUE.is("how many, " + when, x.slow(2), count);
    }

    private static void slow() {
        EclipseHouse x = new EclipseHouse();
        isSlow("without records", x, 0, 60, 61);
        for (int what : new int[] {-1, 3, Integer.MIN_VALUE, Integer.MAX_VALUE}) {
            DUE.is("slow(" + what + ")", x.slow(what), -1);
        }
        Texts.record(x, "sun in even;", 0);
        isSlow("all let by one", x, 0, 60, 61);
        Texts.record(x, "sun year 445 month 5 day 22 hour 10 in even;", 0);
        isSlow("4 to 6", x, 4, 6, 3);
        Texts.record(x, "sun year 445 month 5 day 22 hour 9 in even;", -20);
        isSlow("4 alone", x, 4, 4, 1);
        Texts.record(x, "sun year 445 month 5 day 22 hour 8 in even;", 0);
        isSlow("none", x, -1, -1, -1);
        DUE.is("others, with none", x.slow(3), -1);
        x.drop(3);
        isSlow("4 alone again", x, 4, 4, 1);
        x.drop(1);
        // minute 515 and 19.8025 for each SLOW: hour 9 with SLOWS 2 to 4
        isSlow("2 to 4", x, 2, 4, 3);
    }

    private static void tablesChange() {
        EclipseHouse x = with("sun ring year 0 month 1 day 1 hour 6 in even;", 0);
        DUE.is("before", x.lets(0), 61);
        x.tables(9000, 0, 9000);
        DUE.is("means none then", x.means(0, 0), 0);
        DUE.is("lets none then", x.lets(0), 0);
        DUE.is("no SLOW then", x.slow(0), -1);
        x.tables(-1, 0, 0);
        DUE.is("refused tables change nothing", x.lets(0), 0);
        x.tables(9000, 0, 400);
        DUE.is("as before", x.lets(0), 61);
        DUE.is("as before", x.means(0, 0), 1);
        DUE.is("as before", x.slow(2), 61);
    }

    private static void drop() {
        EclipseHouse x = new EclipseHouse();
        String[] texts = {"sun in even;", "moon in even;", "sun total in even;", "moon whole in even;"};
        int[] means = new int[texts.length];
        for (int i = 0; i < texts.length; i++) {
            Texts.record(x, texts[i], 0);
            means[i] = x.means(i, 0);
        }
        DUE.is("beyond", x.drop(4), -1);
        DUE.is("below", x.drop(-1), -1);
        DUE.is("the second goes", x.drop(1), 3);
        DUE.is("the first stays", x.means(0, 0), means[0]);
        DUE.is("the third moves up", x.means(1, 0), means[2]);
        DUE.is("the fourth moves up", x.means(2, 0), means[3]);
        DUE.is("none behind", x.means(3, 0), -1);
        DUE.is("a new one is the last", Texts.record(x, texts[1], 0), 3);
        DUE.is("what it means", x.means(3, 0), means[1]);
        DUE.is("the first goes", x.drop(0), 3);
        DUE.is("the last goes", x.drop(2), 2);
        DUE.is("moved up", x.means(0, 0), means[2]);
        DUE.is("moved up", x.means(1, 0), means[3]);
        DUE.is("one", x.drop(0), 1);
        DUE.is("none", x.drop(0), 0);
        DUE.is("of none", x.drop(0), -1);
        DUE.is("again from 0 on", Texts.record(x, texts[0], 0), 0);
    }

    /** A RECORD that comes where another one was has nothing of it. */
    private static void nothingLeftOver() {
        EclipseHouse x = new EclipseHouse();
        Texts.reign(x, "old", 0, 300);
        Texts.record(x, "sun total year 146 of old month 5 day 22 hour 10 in even;", 0);
        DUE.is("of a reign", x.meant(0, 4, 0), 11010);
        DUE.is("of a reign, lets", x.lets(0), 3);
        x.drop(0);
        Texts.record(x, "sun year 445 month 1 day 30 hour 8 in leap;", 0);
        DUE.is("of no reign", x.meant(0, 0, 0), 11010);
        DUE.is("of no reign, lets", x.lets(0), 1);
        x.drop(0);
        Texts.record(x, "moon in moons;", 0);
        DUE.is("no numbers", x.lets(0), 61);
        x.drop(0);
        DUE.is("a fault with half of it read", Texts.record(x, "sun total year 445 of old month 5 in", 0), -1);
        Texts.record(x, "sun hour 6 year 0 in even;", 0);
        DUE.is("nothing of the fault's text", x.meant(0, 0, 0), 0);
    }

    private static void wrongInputs() {
        EclipseHouse x = with("sun in even;", 0);
        for (int r : WRONG) {
            DUE.is("means(" + r + ")", x.means(r, 0), -1);
            DUE.is("meant(" + r + ")", x.meant(r, 0, 0), -1);
            DUE.is("slips(" + r + ")", x.slips(r, 0), -1);
            DUE.is("lets(" + r + ")", x.lets(r), -1);
            DUE.is("drop(" + r + ")", x.drop(r), -1);
        }
        for (int s : WRONG_SLOWS) {
            DUE.is("means, slow " + s, x.means(0, s), -1);
            DUE.is("meant, slow " + s, x.meant(0, s, 0), -1);
            DUE.is("slips, slow " + s, x.slips(0, s), -1);
        }
    }
}
