/** Promises 1 to 6: a new object, tables, moon, next, round, many. */
public final class SkyTest {
    private static final Due DUE = new Due("SkyTest");

    public static void main(String[] args) {
        newObject();
        tables();
        places();
        times();
        everyWave();
        kinds();
        next();
        round();
        many();
        lastMoon();
        DUE.finish();
    }

    private static void newObject() {
        EclipseHouse x = new EclipseHouse();
        DUE.is("first table of the moon", x.moon(0, 0), 9000);
        DUE.is("first table of the sun", x.moon(0, 1), 0);
        DUE.is("first table of the node", x.moon(0, 2), 400);
        DUE.is("no record yet", x.means(0, 0), -1);
        DUE.is("nothing on the tape", x.end(1), false);
        DUE.is("no fault yet", x.fault(0), 0);
        DUE.is("no fault's place yet", x.fault(1), -1);
        DUE.is("no reign yet", Texts.record(x, "sun year 1 of a in even;", 0), -1);
        DUE.is("no reign yet: fault", x.fault(0), 3);
        DUE.is("the first reign", Texts.reign(x, "a", 0, 0), 1);
        DUE.is("NONE", EclipseHouse.NONE, -1);
        Texts.record(x, "sun in even;", 0);
        EclipseHouse y = new EclipseHouse();
        DUE.is("objects share no records", y.means(0, 0), -1);
        DUE.is("objects share no tape", y.end(1), false);
    }

    private static void tables() {
        EclipseHouse x = new EclipseHouse();
        DUE.is("all zero", x.tables(0, 0, 0), true);
        DUE.is("all greatest", x.tables(35999, 35998, 35997), true);
        int[][] wrong = {{36000, 0, 0}, {0, 36000, 0}, {0, 0, 36000}, {-1, 0, 0}, {0, -1, 0}, {0, 0, -1},
            {Integer.MIN_VALUE, 0, 0}, {0, Integer.MAX_VALUE, 0}};
        for (int[] w : wrong) {
            DUE.is("tables that can't be", x.tables(w[0], w[1], w[2]), false);
            DUE.is("refused tables leave a", x.moon(0, 0), 35999);
            DUE.is("refused tables leave b", x.moon(0, 1), 35998);
            DUE.is("refused tables leave f", x.moon(0, 2), 35997);
        }
    }

    private static void places() {
        EclipseHouse x = new EclipseHouse();
        DUE.is("A of 12000", x.moon(12000, 0), (19291L * 12000 + 9000) % 36000);
        DUE.is("B of 12000", x.moon(12000, 1), 1455L * 12000 % 36000);
        DUE.is("F of 12000", x.moon(12000, 2), (1953353L * 120 + 400) % 36000);
        DUE.is("F of 1, floored", x.moon(1, 2), 19533 + 400);
        DUE.is("F of 3, floored", x.moon(3, 2), (58600 + 400) % 36000);
        x.tables(35999, 35999, 35999);
        DUE.is("A of 1 beyond the circle", x.moon(1, 0), 19290);
        DUE.is("B of 1 beyond the circle", x.moon(1, 1), 1454);
        DUE.is("F of 1 beyond the circle", x.moon(1, 2), 19532);
        for (int k : new int[] {-1, 12001, Integer.MIN_VALUE, Integer.MAX_VALUE}) {
            for (int what = 0; what <= 4; what++) {
                DUE.is("moon(" + k + ")", x.moon(k, what), -1);
            }
        }
        for (int what : new int[] {-1, 5, Integer.MIN_VALUE, Integer.MAX_VALUE}) {
            DUE.is("moon(0, " + what + ")", x.moon(0, what), -1);
        }
    }

    private static int firstTime(int a, int b) {
        EclipseHouse x = new EclipseHouse();
        x.tables(a, b, 0);
        return x.moon(0, 3);
    }

    private static void times() {
        DUE.is("TIME without waves", firstTime(0, 0), 1000);
        DUE.is("TIME at half circles", firstTime(18000, 18000), 1000);
        DUE.is("TIME: moon 90 degrees", firstTime(9000, 0), 414);
        DUE.is("TIME: moon 270 degrees", firstTime(27000, 0), 1586);
        DUE.is("TIME: sun 90 degrees", firstTime(0, 9000), 1248);
        DUE.is("TIME: sun 270 degrees", firstTime(0, 27000), 752);
        DUE.is("WAVE 87 by proportion", firstTime(500, 0), 950);
        DUE.is("WAVE 87 mirrored", firstTime(17500, 0), 950);
        DUE.is("WAVE -87, floored down", firstTime(18500, 0), 1051);
        DUE.is("WAVE -87 mirrored", firstTime(35500, 0), 1051);
        DUE.is("WAVE floored before it is turned", firstTime(18001, 0), 1000);
        DUE.is("WAVE floored before it is turned, mirrored", firstTime(35999, 0), 1000);
        DUE.is("WAVE 999 below 90 degrees", firstTime(8999, 0), 1000 - 585);
        DUE.is("WAVE 999 above 90 degrees", firstTime(9001, 0), 1000 - 585);
        DUE.is("sun's WAVE -87, floored down", firstTime(0, 18500), 978);
        DUE.is("sun's WAVE 87", firstTime(0, 500), 1021);
        int[] row = {0, 174, 342, 500, 643, 766, 866, 940, 985, 1000};
        for (int i = 0; i < row.length; i++) {
            DUE.is("WAVE of " + i * 1000, firstTime(i * 1000, 0), 1000 - 586 * row[i] / 1000);
            DUE.is("WAVE of " + (18000 - i * 1000), firstTime(18000 - i * 1000, 0), 1000 - 586 * row[i] / 1000);
        }
        EclipseHouse x = new EclipseHouse();
        DUE.is("TIME of 12000", x.moon(12000, 3), 255145576);
    }

    /** The MOON's own table at every place: TIME of MOON 0 tells 586 WAVES of 1000, and the SUN's 248. */
    private static void everyWave() {
        int[] row = {0, 174, 342, 500, 643, 766, 866, 940, 985, 1000};
        EclipseHouse x = new EclipseHouse();
        for (int p = 0; p < 36000; p++) {
            if (p % 120 == 0) {
                // An object is promised for 512 calls, and a place takes four.
                x = new EclipseHouse();
            }
            int half = p % 18000;
            int quarter = Math.min(half, 18000 - half);
            int at = Math.min(quarter / 1000, 8);
            int wave = (row[at] * (1000 * at + 1000 - quarter) + row[at + 1] * (quarter - 1000 * at)) / 1000;
            wave = p > 18000 ? -wave : wave;
            x.tables(p, 0, 0);
            DUE.is("MOON's place " + p, x.moon(0, 3), 1000 - Math.floorDiv(586 * wave, 1000));
            x.tables(0, p, 0);
            DUE.is("SUN's place " + p, x.moon(0, 3), 1000 + Math.floorDiv(248 * wave, 1000));
        }
    }

    private static int kind(int k, int a, int f) {
        EclipseHouse x = new EclipseHouse();
        int shift = (int) (1953353L * k / 100 % 36000);
        x.tables(Math.floorMod(a - 19291 * k, 36000), 0, Math.floorMod(f - shift, 36000));
        return x.moon(k, 4);
    }

    private static void kinds() {
        int[][] nearBy = {{0, 1}, {18000, 1}, {18000, -1}, {36000, -1}};
        for (int[] n : nearBy) {
            for (int k : new int[] {0, 2, 11998}) {
                DUE.is("TOTAL", kind(k, 8999, Math.floorMod(n[0] + n[1] * 1000, 36000)), 1);
                DUE.is("TOTAL", kind(k, 27000, Math.floorMod(n[0] + n[1] * 1000, 36000)), 1);
                DUE.is("RING", kind(k, 9000, Math.floorMod(n[0] + n[1] * 1000, 36000)), 2);
                DUE.is("RING", kind(k, 26999, Math.floorMod(n[0] + n[1] * 1000, 36000)), 2);
                DUE.is("PART", kind(k, 0, Math.floorMod(n[0] + n[1] * 1001, 36000)), 3);
                DUE.is("PART", kind(k, 18000, Math.floorMod(n[0] + n[1] * 1550, 36000)), 3);
                DUE.is("none", kind(k, 0, Math.floorMod(n[0] + n[1] * 1551, 36000)), 0);
            }
            for (int k : new int[] {1, 3, 11999}) {
                DUE.is("WHOLE", kind(k, 0, Math.floorMod(n[0] + n[1] * 480, 36000)), 4);
                DUE.is("HALF", kind(k, 0, Math.floorMod(n[0] + n[1] * 481, 36000)), 5);
                DUE.is("HALF", kind(k, 18000, Math.floorMod(n[0] + n[1] * 1080, 36000)), 5);
                DUE.is("none", kind(k, 0, Math.floorMod(n[0] + n[1] * 1081, 36000)), 0);
            }
        }
    }

    private static void next() {
        EclipseHouse x = new EclipseHouse();
        int[] first = {0, 11, 12, 23, 24};
        for (int n = 1; n <= first.length; n++) {
            DUE.is("eclipse " + n, x.next(0, n, 62), first[n - 1]);
        }
        DUE.is("k counts", x.next(11, 1, 62), 11);
        DUE.is("from behind it on", x.next(12, 1, 62), 12);
        DUE.is("no other bits count", x.next(1, 1, 62 | 64 | 1), 11);
        DUE.is("bit 0 asks for none", x.next(0, 1, 1), -1);
        DUE.is("bits above 5 ask for none", x.next(0, 1, ~63), -1);
        DUE.is("all bits", x.next(1, 1, -1), 11);
        int last = -1;
        for (int k = 12000; k >= 0 && last < 0; k--) {
            last = x.moon(k, 4) == 0 ? -1 : k;
        }
        DUE.is("the last one", x.next(last, 1, 62), last);
        DUE.is("behind the last one", x.next(last + 1, 1, 62), -1);
        DUE.is("a second one from the last on", x.next(last, 2, 62), -1);
        int total = x.many(0, 12000, 62);
        DUE.is("as many as there are", x.next(0, total, 62), last);
        DUE.is("one more", x.next(0, total + 1, 62), -1);
        for (int n : new int[] {0, -1, Integer.MIN_VALUE, Integer.MAX_VALUE}) {
            DUE.is("next(0, " + n + ")", x.next(0, n, 62), -1);
        }
        for (int k : new int[] {-1, 12001, Integer.MIN_VALUE, Integer.MAX_VALUE}) {
            DUE.is("next(" + k + ")", x.next(k, 1, 62), -1);
        }
        x.tables(9000, 0, 9000);
        DUE.is("new tables, new eclipses", x.next(0, 1, 62) == 0, false);
        for (int kind = 1; kind <= 5; kind++) {
            DUE.is("kind " + kind, x.moon(x.next(300, 1, 1 << kind), 4), kind);
        }
    }

    private static void round() {
        EclipseHouse x = new EclipseHouse();
        DUE.is("first", x.round(892, 0), 0);
        DUE.is("last", x.round(892, 1), 11596);
        DUE.is("how many", x.round(892, 2), 27);
        DUE.is("which", x.round(892, 3), 3);
        DUE.is("not at all", x.round(892, 4), -1);
        DUE.is("not at all", x.round(892, -1), -1);
        for (int k : new int[] {-1, -446, 12001, 12042, Integer.MIN_VALUE, Integer.MAX_VALUE, 1}) {
            DUE.is("round(" + k + ")", x.round(k, 0), -1);
        }
        int[] eclipses = {11, 12, 24, 3001, 6000, 9001, 11990};
        for (int from : eclipses) {
            int k = x.next(from, 1, 62);
            if (k >= 0) {
                walkRound(x, k);
            }
        }
        x.tables(0, 0, 5000);
        for (int from = 0; from < 11000; from += 2500) {
            walkRound(x, x.next(from, 1, 48));
            walkRound(x, x.next(from, 1, 14));
        }
    }

    private static void walkRound(EclipseHouse x, int k) {
        int first = k;
        while (first - 446 >= 0 && x.moon(first - 446, 4) != 0) {
            first -= 446;
        }
        int last = k;
        while (last + 446 <= 12000 && x.moon(last + 446, 4) != 0) {
            last += 446;
        }
        DUE.is("first of " + k, x.round(k, 0), first);
        DUE.is("last of " + k, x.round(k, 1), last);
        DUE.is("how many of " + k, x.round(k, 2), (last - first) / 446 + 1);
        DUE.is("which is " + k, x.round(k, 3), (k - first) / 446 + 1);
    }

    private static void lastMoon() {
        EclipseHouse x = new EclipseHouse();
        x.tables(0, 0, (int) Math.floorMod(-1953353L * 120, 36000L));
        DUE.is("F of MOON 12000", x.moon(12000, 2), 0);
        DUE.is("MOON 12000 is an eclipse", x.moon(12000, 4) != 0, true);
        DUE.is("and 446 ahead of it", x.moon(11554, 4) != 0, true);
        DUE.is("the last of its round", x.round(11554, 1), 12000);
        walkRound(x, 12000);
        DUE.is("next(12000)", x.next(12000, 1, 62), 12000);
        DUE.is("many(12000, 12000)", x.many(12000, 12000, 62), 1);
        int k = x.next(0, x.many(0, 12000, 62), 62);
        DUE.is("the last of all", k, 12000);
    }

    private static void many() {
        EclipseHouse x = new EclipseHouse();
        DUE.is("both ends count", x.many(0, 11, 62), 2);
        DUE.is("one MOON", x.many(11, 11, 62), 1);
        DUE.is("one MOON of no kind asked", x.many(11, 11, 14), 0);
        DUE.is("none between", x.many(1, 10, 62), 0);
        DUE.is("no bits", x.many(0, 12000, 0), 0);
        DUE.is("bit 0 asks for none", x.many(0, 12000, 1), 0);
        DUE.is("bits above 5 ask for none", x.many(0, 12000, ~63), 0);
        int sum = 0;
        for (int kind = 1; kind <= 5; kind++) {
            int count = 0;
            EclipseHouse y = x;
            for (int k = 0; k <= 12000; k++) {
                if (k % 500 == 0) {
                    // An object is promised for 512 calls.
                    y = new EclipseHouse();
                }
                count += y.moon(k, 4) == kind ? 1 : 0;
            }
            DUE.is("kind " + kind, x.many(0, 12000, 1 << kind), count);
            sum += count;
        }
        DUE.is("all kinds", x.many(0, 12000, 62), sum);
        DUE.is("all bits", x.many(0, 12000, -1), sum);
        DUE.is("k above m", x.many(12, 11, 62), -1);
        for (int k : new int[] {-1, 12001, Integer.MIN_VALUE, Integer.MAX_VALUE}) {
            DUE.is("many(" + k + ", 12000)", x.many(k, 12000, 62), -1);
            DUE.is("many(0, " + k + ")", x.many(0, k, 62), -1);
        }
    }
}
