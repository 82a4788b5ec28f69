import java.util.ArrayList;
import java.util.Collections;
import java.util.List;
import java.util.Random;

/** Promises 1 to 20: runs of 512 calls by chance, each answer against the model's (always the same runs). */
public final class RandomRunsTest {
    private static final String[] NAMES = {"a", "ab", "in", "of", "year", "sun", "moons", "zzzzzz", "abcdef", "even", "b", "c", "d", "e", "f"};
    private static final String[] CALENDARS = {"even", "leap", "moons"};
    private static final String[] WORDS = {"sun", "moon", "total", "ring", "part", "whole", "half", "year", "month", "day", "hour",
        "of", "in", "even", "leap", "moons", ";", "0", "5", "12", "007", "999", "1000", "14", "32", "24", "ab", "abcdefg", "X", "\n", " "};

    private static final int MOST_CALLS = 512;
    // A RECORD of 180 bytes: end, nine times feed, end, record, twice fault, and one to spare.
    private static final int MOST_OF_STEP = 15;

    private final Random random;
    private final Due due;
    private final EclipseHouse house = new EclipseHouse();
    private final Model model = new Model();
    private final StringBuilder log = new StringBuilder();
    private int calls = 0;
    private int records = 0;

    private RandomRunsTest(long seed, Due due) {
        this.random = new Random(seed);
        this.due = due;
    }

    public static void main(String[] args) {
        int runs = args.length > 0 ? Integer.parseInt(args[0]) : 60;
        int first = args.length > 1 ? Integer.parseInt(args[1]) : 0;
        Due due = new Due("RandomRunsTest");
        for (int seed = first; seed < first + runs && due.wrong() == 0; seed++) {
            new RandomRunsTest(seed, due).run(seed);
        }
        due.finish();
    }

    private void run(int seed) {
        while (calls <= MOST_CALLS - MOST_OF_STEP && due.wrong() == 0) {
            step();
        }
        while (calls < MOST_CALLS && due.wrong() == 0) {
            askSky();
        }
        if (due.wrong() != 0) {
            System.out.println("seed " + seed + ":\n" + log);
        }
    }

    private void same(String call, long got, long want) {
        calls++;
        log.append(call).append(" = ").append(want).append('\n');
        due.is(call, got, want);
    }

    private int pick(int... choices) {
        return choices[random.nextInt(choices.length)];
    }

    private int odd() {
        return pick(-1, 0, 1, 2, 3, 4, 5, 13, 30, 62, 12000, 12001, 36000, Integer.MIN_VALUE, Integer.MAX_VALUE, random.nextInt());
    }

    private boolean chance(int of) {
        return random.nextInt(of) == 0;
    }

    private int moonNumber() {
        return chance(12) ? odd() : random.nextInt(12001);
    }

    private int eclipse() {
        int k = model.next(random.nextInt(11900), 1 + random.nextInt(3), 62);
        return k < 0 ? 0 : k;
    }

    private int east() {
        return chance(25) ? pick(-721, 721, odd()) : chance(5) ? pick(-720, 720) : random.nextInt(1441) - 720;
    }

    private int slowNumber() {
        return chance(25) ? pick(-1, 61, odd()) : chance(5) ? pick(0, 60) : random.nextInt(61);
    }

    private int recordNumber() {
        return chance(15) ? odd() : random.nextInt(Math.max(1, records));
    }

    private void step() {
        int choice = random.nextInt(100);
        if (choice < 2) {
            newTables();
        } else if (choice < 35) {
            askSky();
        } else if (choice < 50) {
            askCalendars();
        } else if (choice < 55) {
            loosePieces();
        } else if (choice < 61) {
            newReign();
        } else if (choice < 75) {
            newRecord();
        } else if (choice < 97) {
            askRecords();
        } else {
            int r = recordNumber();
            int left = model.drop(r);
            same("drop(" + r + ")", house.drop(r), left);
            records = left < 0 ? records : left;
        }
    }

    private void newTables() {
        int a = chance(8) ? odd() : random.nextInt(36000);
        int b = chance(8) ? odd() : random.nextInt(36000);
        int f = chance(8) ? odd() : random.nextInt(36000);
        same("tables(" + a + ", " + b + ", " + f + ")", house.tables(a, b, f) ? 1 : 0, model.tables(a, b, f) ? 1 : 0);
    }

    private void askSky() {
        int k = moonNumber();
        int bits = chance(4) ? odd() : chance(2) ? 62 : random.nextInt(64);
        switch (random.nextInt(4)) {
            case 0:
                int what = chance(15) ? odd() : random.nextInt(5);
                same("moon(" + k + ", " + what + ")", house.moon(k, what), model.moon(k, what));
                break;
            case 1:
                int n = chance(8) ? odd() : 1 + random.nextInt(chance(3) ? 2000 : 20);
                same("next(" + k + ", " + n + ", " + bits + ")", house.next(k, n, bits), model.next(k, n, bits));
                break;
            case 2:
                int e = chance(3) ? k : eclipse();
                int of = chance(15) ? odd() : random.nextInt(4);
                same("round(" + e + ", " + of + ")", house.round(e, of), model.round(e, of));
                break;
            default:
                int m = chance(3) ? moonNumber() : k + random.nextInt(500);
                same("many(" + k + ", " + m + ", " + bits + ")", house.many(k, m, bits), model.many(k, m, bits));
        }
    }

    private void askCalendars() {
        int calendar = chance(15) ? odd() : random.nextInt(3);
        switch (random.nextInt(3)) {
            case 0:
                int day = chance(10) ? pick(400000, 400001, odd()) : random.nextInt(400001);
                int what = chance(15) ? odd() : random.nextInt(3);
                same("date(" + day + ", " + calendar + ", " + what + ")", house.date(day, calendar, what), model.date(day, calendar, what));
                break;
            case 1:
                int y = chance(10) ? pick(1100, 1101, odd()) : random.nextInt(1101);
                int m = chance(10) ? odd() : random.nextInt(15);
                int d = chance(10) ? odd() : chance(2) ? 28 + random.nextInt(5) : random.nextInt(33);
                same("day(" + calendar + ", " + y + ", " + m + ", " + d + ")", house.day(calendar, y, m, d), model.day(calendar, y, m, d));
                break;
            default:
                int k = moonNumber();
                int east = east();
                int s = slowNumber();
                same("seen(" + k + ", " + east + ", " + s + ")", house.seen(k, east, s), model.seen(k, east, s));
        }
    }

    private void loosePieces() {
        if (chance(3)) {
            int n = chance(3) ? odd() : random.nextInt(60);
            same("end(" + n + ")", house.end(n) ? 1 : 0, model.end(n) ? 1 : 0);
        } else if (chance(8)) {
            for (int i = 0; i < 11; i++) {
                feed("sun                 ");
            }
        } else {
            feed(chance(2) ? "sun in even;        " : "moon\nhour 3 in leap; ");
        }
    }

    private void feed(String twenty) {
        int[] n = Texts.numbers(twenty);
        same("feed(\"" + twenty + "\")", house.feed(n[0], n[1], n[2], n[3], n[4]), model.feed(n));
    }

    private void put(String text) {
        if (!chance(30)) {
            house.end(0);
            model.end(0);
            calls++;
        }
        StringBuilder padded = new StringBuilder(text);
        while (padded.length() % 20 != 0) {
            padded.append(' ');
        }
        for (int i = 0; i < padded.length(); i += 20) {
            feed(padded.substring(i, i + 20));
        }
        int n = text.length();
        same("end(" + n + ")", house.end(n) ? 1 : 0, model.end(n) ? 1 : 0);
    }

    private void newReign() {
        String name = NAMES[random.nextInt(NAMES.length)];
        put(chance(8) ? pickBadName() : name);
        int calendar = chance(12) ? odd() : random.nextInt(3);
        int year = chance(12) ? pick(600, 601, odd()) : random.nextInt(chance(4) ? 601 : 400);
        same("reign(" + calendar + ", " + year + ")", house.reign(calendar, year), model.reign(calendar, year));
    }

    private String pickBadName() {
        String[] bad = {"", "abcdefg", "a b", "A", "x1", " a", "a\n", "a`", "{"};
        return bad[random.nextInt(bad.length)];
    }

    private void newRecord() {
        int east = east();
        String text = chance(6) ? anyWords() : likelyText(Math.max(-720, Math.min(720, east)));
        for (int i = chance(3) ? 1 + random.nextInt(2) : 0; i > 0; i--) {
            text = spoil(text);
        }
        put(text.length() > 180 ? text.substring(0, 180) : text);
        int number = model.record(east);
        same("record(" + east + ")", house.record(east), number);
        records = number >= 0 ? number + 1 : records;
        same("fault(0)", house.fault(0), model.fault(0));
        same("fault(1)", house.fault(1), model.fault(1));
    }

    private String anyWords() {
        StringBuilder text = new StringBuilder(chance(2) ? "sun " : "moon ");
        for (int i = random.nextInt(12); i > 0; i--) {
            text.append(WORDS[random.nextInt(WORDS.length)]).append(chance(5) ? "" : " ");
        }
        return text.toString();
    }

    private String likelyText(int east) {
        int k = eclipse();
        int minute = Math.max(0, model.seen(k, east, random.nextInt(61)));
        int calendar = random.nextInt(3);
        List<String> parts = new ArrayList<>();
        String[] words = {"year", "month", "day", "hour"};
        for (int i = 0; i < 4; i++) {
            if (chance(2)) continue;
            int number = i < 3 ? model.date(minute / 1440, calendar, i) : minute % 1440 / 60;
            number = chance(6) ? Math.max(0, number + random.nextInt(5) - 2) : chance(15) ? random.nextInt(40) : number;
            String part = words[i] + blanks(1) + number;
            if (i == 0 && chance(2)) {
                part = words[i] + blanks(1) + random.nextInt(chance(2) ? 4 : 300) + blanks(1) + "of" + blanks(1) + NAMES[random.nextInt(NAMES.length)];
            }
            parts.add(part);
        }
        Collections.shuffle(parts, random);
        int kind = chance(2) ? 0 : model.moon(k, 4);
        String how = new String[] {"", " total", " ring", " part", " whole", " half"}[kind];
        return blanks(0) + (k % 2 == 0 ? "sun" : "moon") + how + blanks(1) + String.join(blanks(1), parts) + blanks(1)
            + "in" + blanks(1) + CALENDARS[calendar] + blanks(0) + ";" + blanks(0);
    }

    private String blanks(int least) {
        String all = chance(12) ? " \n " : chance(6) ? "\n" : chance(3) ? "  " : " ";
        return least == 0 && !chance(4) ? "" : all;
    }

    private String spoil(String text) {
        if (text.isEmpty()) return text;
        int at = random.nextInt(text.length());
        String signs = " \n;0159azXsunmo{`/:\u0000\u00ff\t";
        char sign = signs.charAt(random.nextInt(signs.length()));
        switch (random.nextInt(4)) {
            case 0: return text.substring(0, at) + text.substring(at + 1);
            case 1: return text.substring(0, at) + sign + text.substring(at);
            case 2: return text.substring(0, at) + sign + text.substring(at + 1);
            default: return chance(2) ? text.substring(0, at) : text + WORDS[random.nextInt(WORDS.length)];
        }
    }

    private void askRecords() {
        int r = recordNumber();
        int s = slowNumber();
        switch (random.nextInt(6)) {
            case 0:
                same("means(" + r + ", " + s + ")", house.means(r, s), model.means(r, s));
                break;
            case 1:
                int i = chance(8) ? odd() : random.nextInt(chance(2) ? 2 : 600);
                same("meant(" + r + ", " + s + ", " + i + ")", house.meant(r, s, i), model.meant(r, s, i));
                break;
            case 2:
            case 3:
                same("slips(" + r + ", " + s + ")", house.slips(r, s), model.slips(r, s));
                break;
            case 4:
                same("lets(" + r + ")", house.lets(r), model.lets(r));
                break;
            default:
                int what = chance(10) ? odd() : random.nextInt(3);
                same("slow(" + what + ")", house.slow(what), model.slow(what));
                int of = chance(10) ? odd() : random.nextInt(2);
                same("fault(" + of + ")", house.fault(of), model.fault(of));
        }
    }
}
