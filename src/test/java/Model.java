import java.util.ArrayList;
import java.util.LinkedHashMap;
import java.util.List;
import java.util.Map;
import java.util.TreeSet;
import java.util.regex.Matcher;
import java.util.regex.Pattern;

/**
 * The document once more, as slow and as plain as can be, with nothing of EclipseHouse in it:
 * calendars by walking from day to day, meanings by looking at every MOON, texts by a table
 * of what may follow what.
 */
final class Model {
    static final int NONE = -1;
    private static final int DAYS = 403000;
    private static final int[][][] DATES = {walk(0), walk(1), walk(2)};
    private static final List<Map<Integer, Integer>> DAY_OF = List.of(turn(0), turn(1), turn(2));

    private long a = 9000, b = 0, f = 400;
    private String tape = "";
    private final Map<String, int[]> reigns = new LinkedHashMap<>();
    private final List<Told> records = new ArrayList<>();
    private int fault = 0, place = NONE;

    /** What a RECORD tells. */
    private static final class Told {
        TreeSet<Integer> kinds = new TreeSet<>();
        Map<String, Integer> parts = new LinkedHashMap<>();
        String name = null;
        int nameAt = 0, calendar = 0, east = 0;
    }

    private static int monthLength(int calendar, int year, int month) {
        switch (calendar) {
            case 0: return month <= 12 ? 30 : 5;
            case 1:
                if (month == 13) return 0;
                if (month == 2) return year % 4 == 0 ? 29 : 28;
                return month == 4 || month == 6 || month == 9 || month == 11 ? 30 : 31;
            default:
                if (month == 13) return (7 * year + 1) % 19 < 7 ? 30 : 0;
                return month % 2 == 1 ? 30 : 29;
        }
    }

    private static int[][] walk(int calendar) {
        int[][] dates = new int[DAYS][];
        int year = 0, month = 1, day = 1;
        for (int i = 0; i < DAYS; i++) {
            dates[i] = new int[] {year, month, day};
            day++;
            while (day > monthLength(calendar, year, month)) {
                day = 1;
                month++;
                if (month > 13) {
                    month = 1;
                    year++;
                }
            }
        }
        return dates;
    }

    private static Map<Integer, Integer> turn(int calendar) {
        Map<Integer, Integer> days = new java.util.HashMap<>();
        for (int i = 0; i < DAYS; i++) {
            int[] d = DATES[calendar][i];
            days.put(d[0] * 10000 + d[1] * 100 + d[2], i);
        }
        return days;
    }

    // ---- moons

    boolean tables(int a, int b, int f) {
        if (Math.min(a, Math.min(b, f)) < 0 || Math.max(a, Math.max(b, f)) >= 36000) return false;
        this.a = a;
        this.b = b;
        this.f = f;
        return true;
    }

    private static boolean isMoon(int k) {
        return 0 <= k && k <= 12000;
    }

    private static long wave(long p) {
        long[] row = {0, 174, 342, 500, 643, 766, 866, 940, 985, 1000};
        if (p > 18000) return -wave(p - 18000);
        if (p > 9000) return wave(18000 - p);
        if (p % 1000 == 0) return row[(int) (p / 1000)];
        long low = row[(int) (p / 1000)], high = row[(int) (p / 1000) + 1], rest = p % 1000;
        return Math.floorDiv(low * (1000 - rest) + high * rest, 1000L);
    }

    private long place(int k, int what) {
        if (what == 0) return Math.floorMod(19291L * k + a, 36000L);
        if (what == 1) return Math.floorMod(1455L * k + b, 36000L);
        return Math.floorMod(Math.floorDiv(1953353L * k, 100L) + f, 36000L);
    }

    private long time(int k) {
        return Math.floorDiv(212620236L * k, 10000L) - Math.floorDiv(586 * wave(place(k, 0)), 1000L)
            + Math.floorDiv(248 * wave(place(k, 1)), 1000L) + 1000;
    }

    private int kind(int k) {
        long at = place(k, 2), moon = place(k, 0);
        long d = Math.min(at, Math.min(Math.abs(at - 18000), 36000 - at));
        if (k % 2 == 0) {
            if (d <= 1000 && (moon < 9000 || moon >= 27000)) return 1;
            if (d <= 1000) return 2;
            return d <= 1550 ? 3 : 0;
        }
        if (d <= 480) return 4;
        return d <= 1080 ? 5 : 0;
    }

    int moon(int k, int what) {
        if (!isMoon(k) || what < 0 || what > 4) return NONE;
        if (what <= 2) return (int) place(k, what);
        return what == 3 ? (int) time(k) : kind(k);
    }

    private boolean asked(int k, int bits) {
        int kind = kind(k);
        return kind != 0 && (bits & 1 << kind) != 0;
    }

    int next(int k, int n, int bits) {
        if (!isMoon(k) || n < 1) return NONE;
        for (int m = k; m <= 12000; m++) {
            if (asked(m, bits)) {
                n--;
                if (n == 0) return m;
            }
        }
        return NONE;
    }

    int round(int k, int what) {
        if (!isMoon(k) || kind(k) == 0 || what < 0 || what > 3) return NONE;
        List<Integer> chain = new ArrayList<>();
        for (int m = k % 446; m <= 12000; m += 446) {
            if (kind(m) != 0) {
                chain.add(m);
            } else if (m < k) {
                chain.clear();
            } else {
                break;
            }
        }
        switch (what) {
            case 0: return chain.get(0);
            case 1: return chain.get(chain.size() - 1);
            case 2: return chain.size();
            default: return chain.indexOf(k) + 1;
        }
    }

    int many(int k, int m, int bits) {
        if (!isMoon(k) || !isMoon(m) || k > m) return NONE;
        int count = 0;
        for (int i = k; i <= m; i++) {
            if (asked(i, bits)) count++;
        }
        return count;
    }

    // ---- calendars

    int date(int day, int calendar, int what) {
        if (day < 0 || day > 400000 || calendar < 0 || calendar > 2 || what < 0 || what > 2) return NONE;
        return DATES[calendar][day][what];
    }

    int day(int calendar, int year, int month, int day) {
        if (calendar < 0 || calendar > 2 || year < 0 || year > 1100 || month < 1 || month > 13 || day < 1 || day > 31) {
            return NONE;
        }
        return DAY_OF.get(calendar).getOrDefault(year * 10000 + month * 100 + day, NONE);
    }

    int seen(int k, int east, int s) {
        if (!isMoon(k) || east < -720 || east > 720 || s < 0 || s > 60) return -1000000;
        long y = Math.floorDiv(time(k), 525600L);
        return (int) (time(k) + east + Math.floorDiv(s * y * y, 10000L));
    }

    // ---- records

    int feed(int... numbers) {
        if (tape.length() + 20 > 200) return NONE;
        StringBuilder longer = new StringBuilder(tape);
        for (int number : numbers) {
            for (int i = 3; i >= 0; i--) longer.append((char) (number >>> 8 * i & 255));
        }
        tape = longer.toString();
        return tape.length();
    }

    boolean end(int n) {
        if (n < 0 || n > tape.length()) return false;
        tape = tape.substring(0, n);
        return true;
    }

    int reign(int calendar, int year) {
        String name = tape;
        tape = "";
        if (!name.matches("[a-z]{1,6}") || calendar < 0 || calendar > 2 || year < 0 || year > 600) return NONE;
        if (reigns.size() == 12 || reigns.containsKey(name)) return NONE;
        reigns.put(name, new int[] {calendar, year});
        return reigns.size();
    }

    int record(int east) {
        String text = tape;
        tape = "";
        if (east < -720 || east > 720 || records.size() == 8) return -2;
        Told told = new Told();
        told.east = east;
        fault = 0;
        place = NONE;
        read(text, told);
        if (fault != 0) return -1;
        records.add(told);
        return records.size() - 1;
    }

    private static final Pattern SIGN = Pattern.compile("([ \n]*)([a-z]+|[0-9]+|[^a-z0-9 \n]|$)", Pattern.DOTALL);

    private void read(String text, Told told) {
        Matcher sign = SIGN.matcher(text);
        String state = "what", before = "", part = "";
        while (!state.equals("over")) {
            if (!sign.find()) throw new IllegalStateException(text);
            String s = sign.group(2);
            int at = sign.start(2);
            boolean glued = sign.group(1).isEmpty() && before.matches("[a-z0-9]+") && s.matches("[a-z0-9]+");
            String to = glued ? "bad" : follow(state, s, part, told);
            if (state.equals("number") && s.length() > 3 && s.matches("[0-9]+") && !glued) {
                fail(1, at + 3);
                return;
            }
            if (to.equals("bad")) {
                fail(1, at);
                return;
            }
            if (to.equals("number")) {
                if (told.parts.containsKey(s)) {
                    fail(2, at);
                    return;
                }
                part = s;
            }
            if (state.equals("number")) {
                int n = Integer.parseInt(s);
                int low = part.equals("month") || part.equals("day") ? 1 : 0;
                int high = part.equals("month") ? 13 : part.equals("day") ? 31 : part.equals("hour") ? 23 : 999;
                if (n < low || n > high) {
                    fail(4, at);
                    return;
                }
                told.parts.put(part, n);
            }
            if (state.equals("name")) {
                if (!reigns.containsKey(s)) {
                    fail(3, at);
                    return;
                }
                told.name = s;
                told.nameAt = at;
            }
            state = to;
            before = s;
        }
        if (told.name != null && reigns.get(told.name)[0] != told.calendar) fail(3, told.nameAt);
    }

    private void fail(int newFault, int newPlace) {
        fault = newFault;
        place = newPlace;
    }

    private static String follow(String state, String s, String part, Told told) {
        boolean word = s.matches("[a-z]+");
        switch (state) {
            case "what":
                if (s.equals("sun")) told.kinds.addAll(List.of(1, 2, 3));
                if (s.equals("moon")) told.kinds.addAll(List.of(4, 5));
                return told.kinds.isEmpty() ? "bad" : "how";
            case "how":
                int kind = List.of("", "total", "ring", "part", "whole", "half").indexOf(s);
                if (kind > 0 && told.kinds.contains(kind)) {
                    told.kinds.removeIf(k -> k != kind);
                    return "parts";
                }
                return part(s);
            case "parts": return part(s);
            case "number": return s.matches("[0-9]+") ? part.equals("year") ? "of" : "parts" : "bad";
            case "of": return s.equals("of") ? "name" : part(s);
            case "name": return word && s.length() <= 6 ? "parts" : "bad";
            case "calendar":
                told.calendar = List.of("even", "leap", "moons").indexOf(s);
                return told.calendar < 0 ? "bad" : "close";
            case "close": return s.equals(";") ? "end" : "bad";
            default: return s.isEmpty() ? "over" : "bad";
        }
    }

    private static String part(String s) {
        if (s.equals("in")) return "calendar";
        return List.of("year", "month", "day", "hour").contains(s) ? "number" : "bad";
    }

    int fault(int what) {
        return what == 0 ? fault : what == 1 ? place : NONE;
    }

    /** How many numbers differ, of a MOON that is SEEN; NONE if no numbers would do. */
    private int differing(Told told, int k, int s) {
        if (!told.kinds.contains(kind(k))) return NONE;
        int minute = seen(k, told.east, s);
        if (minute < 0) return NONE;
        int hour = minute % 1440 / 60;
        boolean light = 6 <= hour && hour <= 17;
        if (light != (k % 2 == 0)) return NONE;
        int[] d = DATES[told.calendar][minute / 1440];
        int year = told.name == null ? d[0] : d[0] - reigns.get(told.name)[1] + 1;
        int count = 0;
        for (Map.Entry<String, Integer> e : told.parts.entrySet()) {
            int is = 0;
            switch (e.getKey()) {
                case "year": is = year; break;
                case "month": is = d[1]; break;
                case "day": is = d[2]; break;
                default: is = hour;
            }
            if (is < 0 || is > 999) return NONE;
            if (is != e.getValue()) count++;
        }
        return count;
    }

    private boolean isThere(int r) {
        return 0 <= r && r < records.size();
    }

    private List<Integer> all(int r, int s) {
        List<Integer> moons = new ArrayList<>();
        for (int k = 0; k <= 12000; k++) {
            if (differing(records.get(r), k, s) == 0) moons.add(k);
        }
        return moons;
    }

    int means(int r, int s) {
        return isThere(r) && 0 <= s && s <= 60 ? all(r, s).size() : NONE;
    }

    int meant(int r, int s, int i) {
        if (!isThere(r) || s < 0 || s > 60) return NONE;
        List<Integer> moons = all(r, s);
        return 0 <= i && i < moons.size() ? moons.get(i) : NONE;
    }

    int slips(int r, int s) {
        if (!isThere(r) || s < 0 || s > 60) return NONE;
        int least = NONE;
        for (int k = 0; k <= 12000; k++) {
            int count = differing(records.get(r), k, s);
            if (count >= 0 && (least < 0 || count < least)) least = count;
        }
        return least;
    }

    private TreeSet<Integer> slows(int r) {
        TreeSet<Integer> slows = new TreeSet<>();
        for (int s = 0; s <= 60; s++) {
            for (int k = 0; k <= 12000; k++) {
                if (differing(records.get(r), k, s) == 0) {
                    slows.add(s);
                    break;
                }
            }
        }
        return slows;
    }

    int lets(int r) {
        return isThere(r) ? slows(r).size() : NONE;
    }

    int slow(int what) {
        if (what < 0 || what > 2) return NONE;
        TreeSet<Integer> slows = new TreeSet<>();
        for (int s = 0; s <= 60; s++) slows.add(s);
        for (int r = 0; r < records.size(); r++) slows.retainAll(slows(r));
        if (slows.isEmpty()) return NONE;
        return what == 0 ? slows.first() : what == 1 ? slows.last() : slows.size();
    }

    int drop(int r) {
        if (!isThere(r)) return NONE;
        records.remove(r);
        return records.size();
    }
}
