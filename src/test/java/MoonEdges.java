/** The boundary cases of Terms I and of promises 1 to 6. */
final class MoonEdges {
    private static final int[] NO_MOONS = {-1, 12001, Integer.MIN_VALUE, Integer.MAX_VALUE};
    private static final int LEAST = Integer.MIN_VALUE;
    private static final int MOST = Integer.MAX_VALUE;

    private final Edges edges;

    MoonEdges(Edges edges) {
        this.edges = edges;
    }

    void run() {
        moons();
        places();
        waves();
        times();
        sunKinds();
        moonKinds();
        rounds();
        newObject();
        tables();
        moon();
        next();
        round();
        many();
    }

    private static EclipseHouse with(int a, int b, int f) {
        EclipseHouse x = new EclipseHouse();
        x.tables(a, b, f);
        return x;
    }

    private void moons() {
        edges.sentence("Terms", "MOONS k, 0 .. 12000, even ones new, odd ones full.");
        EclipseHouse x = new EclipseHouse();
        edges.is("the first MOON", x.moon(0, 4), 2);
        edges.is("the last MOON", x.moon(12000, 4), 0);
        for (int k : NO_MOONS) {
            edges.is("moon(" + k + ", 4)", x.moon(k, 4), -1);
        }
        edges.is("MOON 12000 at a node is new", with(0, 0, 29640).moon(12000, 4), 2);
        edges.is("MOON 11999 at a node is full", with(0, 0, 13174).moon(11999, 4), 4);
        edges.is("MOON 1 at a node is full", with(0, 0, 16467).moon(1, 4), 4);
        edges.is("MOON 2 at a node is new", with(0, 0, 32933).moon(2, 4), 1);
    }

    private void places() {
        edges.sentence("Terms", "TABLES of each, in hundredths of a degree, from 0 up to 36000 (without):");
        edges.is("A, one short of the circle", with(16708, 0, 0).moon(1, 0), 35999);
        edges.is("A, the whole circle", with(16709, 0, 0).moon(1, 0), 0);
        edges.is("B, one short of the circle", with(0, 34544, 0).moon(1, 1), 35999);
        edges.is("B, the whole circle", with(0, 34545, 0).moon(1, 1), 0);
        edges.is("F, one short of the circle", with(0, 0, 16466).moon(1, 2), 35999);
        edges.is("F, the whole circle", with(0, 0, 16467).moon(1, 2), 0);

        edges.sentence("Terms", "MOON's place A = 19291 k + a, SUN's place B = 1455 k + b, NODE's place F = floor(1953353 k / 100) + f, "
            + "each modulo 36000");
        EclipseHouse last = with(35999, 35999, 35999);
        edges.is("A of the last MOON", last.moon(12000, 0), 11999);
        edges.is("B of the last MOON", last.moon(12000, 1), 35999);
        edges.is("F of the last MOON", last.moon(12000, 2), 6359);
        EclipseHouse zero = with(0, 0, 0);
        edges.is("A of the first MOON", zero.moon(0, 0), 0);
        edges.is("B of the first MOON", zero.moon(0, 1), 0);
        edges.is("F of the first MOON", zero.moon(0, 2), 0);
        edges.is("F of MOON 1: 19533.53, floored", zero.moon(1, 2), 19533);
        edges.is("F of MOON 83: 1621282.99, floored", zero.moon(83, 2), 1282);
        edges.is("F of MOON 100: nothing to floor", zero.moon(100, 2), 9353);

        edges.sentence("Terms", "(a, b, f: 0 .. 35999; 9000, 0, 400 at first).");
        EclipseHouse x = new EclipseHouse();
        edges.is("a at first", x.moon(0, 0), 9000);
        edges.is("b at first", x.moon(0, 1), 0);
        edges.is("f at first", x.moon(0, 2), 400);
        edges.is("the least", x.tables(0, 0, 0), true);
        edges.is("the greatest", x.tables(35999, 35999, 35999), true);
        edges.is("the greatest a", x.moon(0, 0), 35999);
        edges.is("the greatest b", x.moon(0, 1), 35999);
        edges.is("the greatest f", x.moon(0, 2), 35999);
    }

    private static int timeAt(int a, int b) {
        return with(a, b, 0).moon(0, 3);
    }

    private void waves() {
        edges.sentence("Terms", "WAVE of a place p: with the row 0, 174, 342, 500, 643, 766, 866, 940, 985, 1000 for 0, 1000, .. 9000,");
        int[] byMoon = {1000, 899, 800, 707, 624, 552, 493, 450, 423, 414};
        int[] bySun = {1000, 1043, 1084, 1124, 1159, 1189, 1214, 1233, 1244, 1248};
        for (int i = 0; i < byMoon.length; i++) {
            edges.is("TIME at A = " + 1000 * i, timeAt(1000 * i, 0), byMoon[i]);
            edges.is("TIME at B = " + 1000 * i, timeAt(0, 1000 * i), bySun[i]);
        }

        edges.sentence("Terms", "in between in proportion, floored");
        // 5 is the least place with WAVE 0 floored from 0.87, 6 the first one above 1; 586 and 248 thousandths of it are floored again.
        edges.is("WAVE 0.87 is 0", timeAt(18005, 0), 1000);
        edges.is("WAVE 1.044 is 1", timeAt(18006, 0), 1001);
        edges.is("WAVE 173.8 is 173", timeAt(999, 0), 899);
        edges.is("WAVE 173.8 of the SUN is 173", timeAt(0, 999), 1042);
        edges.is("WAVE 174 of the SUN", timeAt(0, 1000), 1043);
        edges.is("WAVE 999.985 is 999", timeAt(8999, 0), 415);
        edges.is("WAVE 985.015 is 985", timeAt(8001, 0), 423);
        edges.is("WAVE 258, nothing to floor", timeAt(1500, 0), 849);
        edges.is("WAVE 646.075 of the SUN is 646", timeAt(0, 4025), 1160);

        edges.sentence("Terms", "(for p from 9000 to 18000 as for 18000 - p, above 18000 the opposite of p - 18000).");
        edges.is("9000", timeAt(9000, 0), 414);
        edges.is("9001 as 8999", timeAt(9001, 0), 415);
        edges.is("10000 as 8000", timeAt(10000, 0), 423);
        edges.is("17000 as 1000", timeAt(17000, 0), 899);
        edges.is("17999 as 1", timeAt(17999, 0), 1000);
        edges.is("18000 as 0", timeAt(18000, 0), 1000);
        edges.is("18001 opposite to 1, floored ahead", timeAt(18001, 0), 1000);
        edges.is("19000 opposite to 1000", timeAt(19000, 0), 1102);
        edges.is("26999 opposite to 8999", timeAt(26999, 0), 1586);
        edges.is("27000 opposite to 9000", timeAt(27000, 0), 1586);
        edges.is("28000 opposite to 10000", timeAt(28000, 0), 1578);
        edges.is("35000 opposite to 17000", timeAt(35000, 0), 1102);
        edges.is("35999 opposite to 17999", timeAt(35999, 0), 1000);
    }

    private void times() {
        edges.sentence("Terms", "TIME of MOON k in minutes: floor(212620236 k / 10000), less floor(586 WAVE(A) / 1000), "
            + "and floor(248 WAVE(B) / 1000), and 1000.");
        // MOON 42 has A = 8000 and B = 0 then: 893004.9912 less 577 and 1000.
        edges.is("893004.9912, floored", with(25778, 10890, 0).moon(42, 3), 893427);
        edges.is("MOON 12000 is beyond an int's product", with(0, 0, 0).moon(12000, 3), 255144776);
        edges.is("a WAVE of the MOON below 0 is floored down: -1 of -0.586", timeAt(18006, 0), 1001);
        edges.is("a WAVE of the MOON of 1 is floored to 0", timeAt(6, 0), 1000);
        edges.is("a WAVE of the SUN below 0 is floored down: -1 of -0.248", timeAt(0, 18006), 999);
        edges.is("a WAVE of the SUN of 1 is floored to 0", timeAt(0, 6), 1000);
        edges.is("the least TIME", timeAt(9000, 27000), 166);
        edges.is("the greatest TIME", with(15000, 9000, 0).moon(12000, 3), 255146117);
    }

    /** MOON k, with A and F there as they are told. */
    private static int kind(int k, int moonPlace, int nodePlace) {
        int shift = (int) (1953353L * k / 100 % 36000);
        return with(Math.floorMod(moonPlace - 19291 * k, 36000), 0, Math.floorMod(nodePlace - shift, 36000)).moon(k, 4);
    }

    /** Both sides of each node, as far from it as told. */
    private static int[] bothSides(int far) {
        return new int[] {far, 18000 - far, 18000 + far, 36000 - far};
    }

    private void kindIs(String name, int k, int moonPlace, int far, int want) {
        for (int nodePlace : bothSides(far)) {
            edges.is(name + " of MOON " + k + ", A " + moonPlace + ", F " + nodePlace, kind(k, moonPlace, nodePlace), want);
        }
    }

    private void sunKinds() {
        edges.sentence("Terms", "D: how far F is from the nearest of 0, 18000, 36000.");
        for (int nodePlace : new int[] {0, 1, 17999, 18000, 18001, 35999}) {
            edges.is("near a node, F " + nodePlace, kind(0, 0, nodePlace), 1);
        }
        for (int nodePlace : new int[] {8999, 9000, 9001, 27000}) {
            edges.is("far from all, F " + nodePlace, kind(0, 0, nodePlace), 0);
        }
        edges.sentence("Terms", "A new MOON is an eclipse of the SUN: 1 TOTAL, if D is at most 1000 and A is below 9000 or at least 27000;");
        for (int k : new int[] {0, 12000}) {
            kindIs("TOTAL", k, 0, 1000, 1);
            kindIs("TOTAL", k, 8999, 1000, 1);
            kindIs("TOTAL", k, 27000, 1000, 1);
            kindIs("TOTAL", k, 35999, 1000, 1);
            kindIs("no TOTAL", k, 0, 1001, 3);
            kindIs("no TOTAL", k, 27000, 1001, 3);
        }
        edges.sentence("Terms", "2 RING, if D is at most 1000, else;");
        kindIs("RING", 2, 9000, 1000, 2);
        kindIs("RING", 2, 26999, 1000, 2);
        kindIs("no RING", 2, 9000, 1001, 3);
        kindIs("no RING", 2, 26999, 1001, 3);
        edges.sentence("Terms", "3 PART, if D is at most 1550.");
        kindIs("PART", 2, 0, 1550, 3);
        kindIs("PART", 2, 18000, 1550, 3);
        kindIs("none", 2, 0, 1551, 0);
        kindIs("none", 2, 18000, 1551, 0);
    }

    private void moonKinds() {
        edges.sentence("Terms", "A full one of the MOON: 4 WHOLE, if D is at most 480;");
        for (int k : new int[] {1, 11999}) {
            kindIs("WHOLE", k, 0, 480, 4);
            kindIs("WHOLE", k, 18000, 480, 4);
            kindIs("no WHOLE", k, 0, 481, 5);
        }
        edges.sentence("Terms", "5 HALF, if D is at most 1080.");
        kindIs("HALF", 1, 0, 1080, 5);
        kindIs("HALF", 1, 18000, 1080, 5);
        edges.sentence("Terms", "Else 0.");
        kindIs("none", 1, 0, 1081, 0);
        kindIs("none", 1, 18000, 1081, 0);
        kindIs("none", 1, 0, 1550, 0);
        kindIs("none", 0, 0, 1551, 0);
    }

    private void isRound(String name, EclipseHouse x, int k, int... due) {
        for (int what = 0; what < due.length; what++) {
            edges.is(name + ": round(" + k + ", " + what + ")", x.round(k, what), due[what]);
        }
    }

    private void rounds() {
        edges.sentence("Terms", "A ROUND: eclipses k, k + 446, k + 892, .. , as many as follow one another without one that is none;");
        isRound("of one alone", with(0, 0, 16495), 0, 0, 0, 1, 1);
        isRound("of two, the first", with(0, 0, 16496), 0, 0, 446, 2, 1);
        isRound("of two, the second", with(0, 0, 16496), 446, 0, 446, 2, 2);
        isRound("kinds may change", new EclipseHouse(), 446, 0, 11596, 27, 2);

        edges.sentence("Terms", "it is born with the first one, dies behind the last one (within 0 .. 12000).");
        isRound("born with MOON 869", new EclipseHouse(), 1315, 869, 11573, 25, 2);
        edges.is("446 ahead of it there is none", new EclipseHouse().moon(423, 4), 0);
        isRound("dies behind MOON 480", new EclipseHouse(), 34, 34, 480, 2, 1);
        isRound("not beyond MOON 12000", with(0, 0, 13145), 12000, 11554, 12000, 2, 2);
        isRound("up to MOON 12000", with(0, 0, 13145), 11554, 11554, 12000, 2, 1);
        isRound("born with MOON 12000", with(0, 0, 13146), 12000, 12000, 12000, 1, 1);
        isRound("not ahead of MOON 0", with(0, 0, 16496), 446, 0, 446, 2, 2);
        isRound("the last that can be: MOON 11999", with(0, 0, 13174), 11999, 1741, 11999, 24, 24);
        isRound("the last of 446: MOON 445", with(0, 0, 19580), 445, 445, 10703, 24, 1);
    }

    private void newObject() {
        edges.sentence("Promise 1", "No REIGNS, no RECORDS.");
        EclipseHouse x = new EclipseHouse();
        edges.is("no RECORD 0", x.means(0, 0), -1);
        edges.is("no RECORD to drop", x.drop(0), -1);
        edges.is("all SLOWS", x.slow(2), 61);
        edges.is("nothing on the tape", x.end(1), false);
        edges.is("no REIGN of this NAME", Texts.record(x, "sun year 1 of a in even;", 0), -1);
        edges.is("that is its FAULT", x.fault(0), 3);
        edges.is("the first REIGN", Texts.reign(x, "a", 0, 0), 1);
        edges.is("the first RECORD", Texts.record(x, "sun year 1 of a in even;", 0), 0);
        EclipseHouse y = new EclipseHouse();
        edges.is("another object has none of these RECORDS", y.means(0, 0), -1);
        edges.is("another object has none of these REIGNS", Texts.reign(y, "a", 0, 0), 1);
    }

    private void tables() {
        edges.sentence("Promise 2", "a, b, f: true;");
        EclipseHouse x = new EclipseHouse();
        edges.is("the least", x.tables(0, 0, 0), true);
        edges.is("the greatest", x.tables(35999, 35998, 35997), true);
        edges.is("a", x.moon(0, 0), 35999);
        edges.is("b", x.moon(0, 1), 35998);
        edges.is("f", x.moon(0, 2), 35997);
        edges.is("the same once more", x.tables(35999, 35998, 35997), true);
        newTables();

        edges.sentence("Promise 2", "false when one can't be.");
        for (int wrong : new int[] {-1, 36000, LEAST, MOST}) {
            edges.is("a = " + wrong, x.tables(wrong, 1, 2), false);
            edges.is("b = " + wrong, x.tables(1, wrong, 2), false);
            edges.is("f = " + wrong, x.tables(1, 2, wrong), false);
            edges.is("a stays", x.moon(0, 0), 35999);
            edges.is("b stays", x.moon(0, 1), 35998);
            edges.is("f stays", x.moon(0, 2), 35997);
            edges.is("the eclipses stay", x.many(0, 12000, 2), 341);
        }
    }

    /** What was asked under the first TABLES is another answer under the next ones. */
    private void newTables() {
        EclipseHouse x = new EclipseHouse();
        Texts.record(x, "sun in even;", 0);
        edges.is("many, ahead", x.many(0, 12000, 4), 346);
        edges.is("means, ahead", x.means(0, 0), 504);
        edges.is("tables", x.tables(0, 0, 9000), true);
        edges.is("many, behind", x.many(0, 12000, 4), 345);
        edges.is("next, behind", x.next(0, 1, 62), 6);
        edges.is("round, behind", x.round(6, 1), 11602);
        edges.is("means, behind", x.means(0, 0), 522);
        edges.is("tables as at first", x.tables(9000, 0, 400), true);
        edges.is("means as at first", x.means(0, 0), 504);
    }

    private void moon() {
        edges.sentence("Promise 3", "Of MOON k: 0 A, 1 B, 2 F, 3 TIME, 4 what eclipse (0 .. 5).");
        EclipseHouse x = new EclipseHouse();
        int[] first = {9000, 0, 400, 414, 2};
        int[] last = {21000, 0, 6760, 255145576, 0};
        for (int what = 0; what < 5; what++) {
            edges.is("moon(0, " + what + ")", x.moon(0, what), first[what]);
            edges.is("moon(12000, " + what + ")", x.moon(12000, what), last[what]);
        }
        int[] kinds = {1, 0, 446, 1, 12, 2, 24, 3, 23, 4, 11, 5};
        for (int i = 0; i < kinds.length; i += 2) {
            edges.is("moon(" + kinds[i] + ", 4)", x.moon(kinds[i], 4), kinds[i + 1]);
        }

        edges.sentence("Promise 3", "NONE when there is none such, or for others.");
        for (int k : NO_MOONS) {
            for (int what = 0; what < 5; what++) {
                edges.is("moon(" + k + ", " + what + ")", x.moon(k, what), -1);
            }
        }
        for (int what : new int[] {-1, 5, LEAST, MOST}) {
            edges.is("moon(0, " + what + ")", x.moon(0, what), -1);
            edges.is("moon(12000, " + what + ")", x.moon(12000, what), -1);
        }
    }

    private void next() {
        edges.sentence("Promise 4", "The n-th (from 1 on) eclipse from MOON k on (k counts)");
        EclipseHouse x = new EclipseHouse();
        edges.is("the first from 0 on", x.next(0, 1, 62), 0);
        edges.is("the second from 0 on", x.next(0, 2, 62), 11);
        edges.is("k counts", x.next(11, 1, 62), 11);
        edges.is("the second from 11 on", x.next(11, 2, 62), 12);
        edges.is("one behind it", x.next(13, 1, 62), 23);
        edges.is("the last of all 1752", x.next(0, 1752, 62), 11996);
        edges.is("the last one counts", x.next(11996, 1, 62), 11996);
        edges.is("MOON 12000 counts", with(0, 0, 29640).next(12000, 1, 4), 12000);

        edges.sentence("Promise 4", "of what (bits 1 to 5: which);");
        int[] firstOfKind = {70, 0, 24, 23, 11};
        int[] countOfKind = {323, 346, 364, 319, 400};
        for (int kind = 1; kind <= 5; kind++) {
            edges.is("bit " + kind, x.next(0, 1, 1 << kind), firstOfKind[kind - 1]);
            edges.is("bit " + kind + ", no more than there are", x.next(0, countOfKind[kind - 1] + 1, 1 << kind), -1);
        }
        edges.is("bit 0 tells no eclipse", x.next(0, 1, 1), -1);
        edges.is("bit 6 tells no eclipse", x.next(0, 1, 64), -1);
        edges.is("the highest bit tells no eclipse", x.next(0, 1, LEAST), -1);
        edges.is("no bits", x.next(0, 1, 0), -1);
        edges.is("all bits", x.next(1, 1, -1), 11);

        edges.sentence("Promise 4", "NONE when there is none such.");
        edges.is("one more than all", x.next(0, 1753, 62), -1);
        edges.is("behind the last one", x.next(11997, 1, 62), -1);
        edges.is("a second one from the last on", x.next(11996, 2, 62), -1);
        for (int n : new int[] {0, -1, LEAST, MOST}) {
            edges.is("next(0, " + n + ", 62)", x.next(0, n, 62), -1);
        }
        for (int k : NO_MOONS) {
            edges.is("next(" + k + ", 1, 62)", x.next(k, 1, 62), -1);
        }
    }

    private void round() {
        edges.sentence("Promise 5", "Of the ROUND of MOON k: 0 its first, 1 its last MOON, 2 how many, 3 which k is (from 1 on).");
        EclipseHouse x = new EclipseHouse();
        isRound("the first of 27", x, 0, 0, 11596, 27, 1);
        isRound("the last of 27", x, 11596, 0, 11596, 27, 27);
        isRound("alone", x, 11785, 11785, 11785, 1, 1);

        edges.sentence("Promise 5", "NONE when it is no eclipse, or for others.");
        for (int what = 0; what < 4; what++) {
            edges.is("no eclipse: round(1, " + what + ")", x.round(1, what), -1);
            edges.is("446 behind the last: round(12042, " + what + ")", x.round(12042, what), -1);
            for (int k : NO_MOONS) {
                edges.is("round(" + k + ", " + what + ")", x.round(k, what), -1);
            }
        }
        for (int what : new int[] {-1, 4, LEAST, MOST}) {
            edges.is("round(0, " + what + ")", x.round(0, what), -1);
        }
    }

    private void many() {
        edges.sentence("Promise 6", "How many eclipses of what (bits) there are from MOON k to MOON m;");
        EclipseHouse x = new EclipseHouse();
        edges.is("of all", x.many(0, 12000, 62), 1752);
        int[] count = {323, 346, 364, 319, 400};
        for (int kind = 1; kind <= 5; kind++) {
            edges.is("bit " + kind, x.many(0, 12000, 1 << kind), count[kind - 1]);
        }
        edges.is("k counts", x.many(11, 20, 62), 2);
        edges.is("not ahead of k", x.many(12, 20, 62), 1);
        edges.is("m counts", x.many(1, 11, 62), 1);
        edges.is("not behind m", x.many(1, 10, 62), 0);
        edges.is("k is m", x.many(11, 11, 62), 1);
        edges.is("k is m, of no kind that is asked", x.many(11, 11, 30), 0);
        edges.is("MOON 0 alone", x.many(0, 0, 62), 1);
        edges.is("MOON 12000 alone", x.many(12000, 12000, 62), 0);
        edges.is("MOON 12000 alone, an eclipse", with(0, 0, 29640).many(12000, 12000, 4), 1);
        edges.is("no bits", x.many(0, 12000, 0), 0);
        edges.is("bits of no eclipse", x.many(0, 12000, ~62), 0);
        edges.is("all bits", x.many(0, 12000, -1), 1752);

        edges.sentence("Promise 6", "NONE when there are none such, or k is above m.");
        edges.is("k above m by one", x.many(12, 11, 62), -1);
        edges.is("k above m by all", x.many(12000, 0, 62), -1);
        for (int none : NO_MOONS) {
            edges.is("many(" + none + ", 12000, 62)", x.many(none, 12000, 62), -1);
            edges.is("many(0, " + none + ", 62)", x.many(0, none, 62), -1);
            edges.is("many(" + none + ", " + none + ", 62)", x.many(none, none, 62), -1);
        }
    }
}
