/**
 * A house of eclipses by whole tables: MOONS, ROUNDS, CALENDARS, REIGNS and RECORDS,
 * as the document's promises 1 to 20 tell them.
 *
 * Every row is made by a constructor and used again by all calls, since all that
 * a run makes stays in one room.
 */
public final class EclipseHouse {
    public static final int NONE = -1;

    private static final int CANNOT_BE_SEEN = -1000000;
    private static final int LAST_DAY = 400000;
    private static final int LAST_YEAR = 1100;
    private static final int MOST_EAST = 720;
    private static final int MOST_SLOW = 60;
    private static final long ALL_SLOWS = (1L << (MOST_SLOW + 1)) - 1;
    private static final int MOST_NUMBER = 999;

    private static final int YEAR = 0;
    private static final int MONTH = 1;
    private static final int DAY = 2;
    private static final int HOUR = 3;
    private static final int PARTS = 4;

    private final Sky sky;
    private final Tape tape;
    private final Reigns reigns;
    private final Archive archive;
    private final Reader reader;

    public EclipseHouse() {
        sky = new Sky();
        tape = new Tape();
        reigns = new Reigns();
        archive = new Archive();
        reader = new Reader(tape, reigns);
    }

    public boolean tables(int a, int b, int f) {
        return sky.setTables(a, b, f);
    }

    public int moon(int k, int what) {
        if (!Sky.isMoon(k)) {
            return NONE;
        }
        switch (what) {
            case 0: return sky.moonPlace(k);
            case 1: return sky.sunPlace(k);
            case 2: return sky.nodePlace(k);
            case 3: return sky.timeOf(k);
            case 4: return sky.kindOf(k);
            default: return NONE;
        }
    }

    public int next(int k, int n, int bits) {
        if (!Sky.isMoon(k) || n < 1) {
            return NONE;
        }
        return sky.findEclipse(k, n, bits);
    }

    public int round(int k, int what) {
        if (!Sky.isMoon(k) || sky.kindOf(k) == 0) {
            return NONE;
        }
        int first = sky.firstOfRound(k);
        int last = sky.lastOfRound(k);
        switch (what) {
            case 0: return first;
            case 1: return last;
            case 2: return (last - first) / Sky.ROUND_STEP + 1;
            case 3: return (k - first) / Sky.ROUND_STEP + 1;
            default: return NONE;
        }
    }

    public int many(int k, int m, int bits) {
        if (!Sky.isMoon(k) || !Sky.isMoon(m) || k > m) {
            return NONE;
        }
        return sky.countEclipses(k, m, bits);
    }

    public int date(int day, int calendar, int what) {
        if (day < 0 || day > LAST_DAY || !Calendars.isCalendar(calendar)) {
            return NONE;
        }
        int year = Calendars.yearOf(calendar, day);
        int monthDay = Calendars.monthDayOf(calendar, year, day);
        switch (what) {
            case 0: return year;
            case 1: return Calendars.monthIn(monthDay);
            case 2: return Calendars.dayIn(monthDay);
            default: return NONE;
        }
    }

    public int day(int calendar, int year, int month, int day) {
        if (!Calendars.isCalendar(calendar) || year < 0 || year > LAST_YEAR) {
            return NONE;
        }
        return Calendars.dayOf(calendar, year, month, day);
    }

    public int seen(int k, int east, int s) {
        if (!Sky.isMoon(k) || !isEast(east) || !isSlow(s)) {
            return CANNOT_BE_SEEN;
        }
        return Sky.minuteSeen(sky.timeOf(k), east, s);
    }

    public int feed(int a, int b, int c, int d, int e) {
        if (!tape.hasRoom()) {
            return NONE;
        }
        tape.addNumber(a);
        tape.addNumber(b);
        tape.addNumber(c);
        tape.addNumber(d);
        tape.addNumber(e);
        return tape.size();
    }

    public boolean end(int n) {
        return tape.cutTo(n);
    }

    public int reign(int calendar, int year) {
        int name = tape.nameBetween(0, tape.size());
        tape.clear();
        return reigns.begin(name, calendar, year);
    }

    public int record(int east) {
        if (!isEast(east) || !archive.hasRoom()) {
            tape.clear();
            return -2;
        }
        Account account = archive.spare();
        boolean whole = account != null && reader.read(account, east);
        tape.clear();
        return whole ? archive.keepSpare() : -1;
    }

    public int fault(int what) {
        switch (what) {
            case 0: return reader.faultKind();
            case 1: return reader.faultPlace();
            default: return NONE;
        }
    }

    public int means(int r, int s) {
        Account account = archive.find(r);
        if (account == null || !isSlow(s)) {
            return NONE;
        }
        return account.countMeant(sky, s);
    }

    public int meant(int r, int s, int i) {
        Account account = archive.find(r);
        if (account == null || !isSlow(s) || i < 0) {
            return NONE;
        }
        return account.findMeant(sky, s, i);
    }

    public int slips(int r, int s) {
        Account account = archive.find(r);
        if (account == null || !isSlow(s)) {
            return NONE;
        }
        return account.leastSlips(sky, s);
    }

    public int lets(int r) {
        Account account = archive.find(r);
        if (account == null) {
            return NONE;
        }
        return Long.bitCount(account.slowsLet(sky));
    }

    public int slow(int what) {
        long slows = archive.slowsOfAll(sky);
        if (slows == 0) {
            return NONE;
        }
        switch (what) {
            case 0: return Long.numberOfTrailingZeros(slows);
            case 1: return 63 - Long.numberOfLeadingZeros(slows);
            case 2: return Long.bitCount(slows);
            default: return NONE;
        }
    }

    public int drop(int r) {
        return archive.remove(r);
    }

    private static boolean isEast(int east) {
        return east >= -MOST_EAST && east <= MOST_EAST;
    }

    private static boolean isSlow(int s) {
        return s >= 0 && s <= MOST_SLOW;
    }

    /** The TABLES, and the row of all eclipses that they tell. */
    private static final class Sky {
        static final int ROUND_STEP = 446;

        private static final int LAST_MOON = 12000;
        private static final int CIRCLE = 36000;
        private static final int HALF_CIRCLE = 18000;
        private static final int QUARTER = 9000;
        private static final int[] WAVES = {0, 174, 342, 500, 643, 766, 866, 940, 985, 1000};
        private static final int YEAR_MINUTES = 525600;
        // No f lets more than 1760 MOONS be eclipses (all 36000 have been counted).
        private static final int MOST_ECLIPSES = 1800;

        private int moonStart;
        private int sunStart;
        private int nodeStart;
        private int version;
        private boolean listed;
        private int listSize;
        private final int[] listMoon;
        private final int[] listKind;
        private final int[] listTime;

        Sky() {
            moonStart = 9000;
            sunStart = 0;
            nodeStart = 400;
            version = 1;
            listMoon = new int[MOST_ECLIPSES];
            listKind = new int[MOST_ECLIPSES];
            listTime = new int[MOST_ECLIPSES];
        }

        static boolean isMoon(int k) {
            return k >= 0 && k <= LAST_MOON;
        }

        private static boolean isPlace(int p) {
            return p >= 0 && p < CIRCLE;
        }

        boolean setTables(int a, int b, int f) {
            if (!isPlace(a) || !isPlace(b) || !isPlace(f)) {
                return false;
            }
            moonStart = a;
            sunStart = b;
            nodeStart = f;
            listed = false;
            version++;
            return true;
        }

        /** Tells whether what was found under earlier TABLES still holds. */
        int tablesVersion() {
            return version;
        }

        int moonPlace(int k) {
            return (19291 * k + moonStart) % CIRCLE;
        }

        int sunPlace(int k) {
            return (1455 * k + sunStart) % CIRCLE;
        }

        int nodePlace(int k) {
            return (int) ((1953353L * k / 100 + nodeStart) % CIRCLE);
        }

        int timeOf(int k) {
            int mean = (int) (212620236L * k / 10000);
            int byMoon = Math.floorDiv(586 * waveOf(moonPlace(k)), 1000);
            int bySun = Math.floorDiv(248 * waveOf(sunPlace(k)), 1000);
            return mean - byMoon + bySun + 1000;
        }

        private static int waveOf(int p) {
            return p > HALF_CIRCLE ? -halfWave(p - HALF_CIRCLE) : halfWave(p);
        }

        private static int halfWave(int p) {
            int q = p > QUARTER ? HALF_CIRCLE - p : p;
            int row = q / 1000;
            if (row < 0 || row >= WAVES.length - 1) {
                return WAVES[WAVES.length - 1];
            }
            return WAVES[row] + (WAVES[row + 1] - WAVES[row]) * (q % 1000) / 1000;
        }

        int kindOf(int k) {
            int behind = nodePlace(k) % HALF_CIRCLE;
            int far = Math.min(behind, HALF_CIRCLE - behind);
            return k % 2 == 0 ? sunKind(far, k) : moonKind(far);
        }

        private int sunKind(int far, int k) {
            if (far > 1000) {
                return far <= 1550 ? 3 : 0;
            }
            int place = moonPlace(k);
            return place < QUARTER || place >= CIRCLE - QUARTER ? 1 : 2;
        }

        private static int moonKind(int far) {
            if (far <= 480) {
                return 4;
            }
            return far <= 1080 ? 5 : 0;
        }

        int firstOfRound(int k) {
            int first = k;
            while (first >= ROUND_STEP && kindOf(first - ROUND_STEP) != 0) {
                first -= ROUND_STEP;
            }
            return first;
        }

        int lastOfRound(int k) {
            int last = k;
            while (last + ROUND_STEP <= LAST_MOON && kindOf(last + ROUND_STEP) != 0) {
                last += ROUND_STEP;
            }
            return last;
        }

        static int minuteSeen(int time, int east, int s) {
            int year = time / YEAR_MINUTES;
            return time + east + s * year * year / 10000;
        }

        /** Lists the eclipses if that has not been done under these TABLES; answers how many. */
        int listEclipses() {
            if (listed) {
                return listSize;
            }
            listSize = 0;
            for (int k = 0; k <= LAST_MOON && listSize < MOST_ECLIPSES; k++) {
                int kind = kindOf(k);
                if (kind != 0) {
                    listMoon[listSize] = k;
                    listKind[listSize] = kind;
                    listTime[listSize] = timeOf(k);
                    listSize++;
                }
            }
            listed = true;
            return listSize;
        }

        private boolean isListed(int i) {
            return i >= 0 && i < listSize;
        }

        int moonAt(int i) {
            return isListed(i) ? listMoon[i] : NONE;
        }

        int kindAt(int i) {
            return isListed(i) ? listKind[i] : 0;
        }

        boolean isOfSunAt(int i) {
            return moonAt(i) % 2 == 0;
        }

        int timeAt(int i) {
            return isListed(i) ? listTime[i] : 0;
        }

        /** Bit 0 is no eclipse's, and bits above 5 are nobody's: they ask for nothing. */
        private boolean isAsked(int i, int bits) {
            return (bits >> listKind[i] & 1) != 0;
        }

        int findEclipse(int k, int n, int bits) {
            int size = listEclipses();
            int left = n;
            for (int i = 0; i < size; i++) {
                if (listMoon[i] >= k && isAsked(i, bits)) {
                    left--;
                    if (left == 0) {
                        return listMoon[i];
                    }
                }
            }
            return NONE;
        }

        int countEclipses(int k, int m, int bits) {
            int size = listEclipses();
            int count = 0;
            for (int i = 0; i < size && listMoon[i] <= m; i++) {
                if (listMoon[i] >= k && isAsked(i, bits)) {
                    count++;
                }
            }
            return count;
        }
    }

    /** The three CALENDARS, for years and days that are not below 0. */
    private static final class Calendars {
        static final int EVEN = 0;
        static final int LEAP = 1;
        static final int MOONS = 2;

        private static final int MOST_MONTHS = 13;
        private static final int[] LEAP_MONTHS = {31, 28, 31, 30, 31, 30, 31, 31, 30, 31, 30, 31};

        private Calendars() {
        }

        static boolean isCalendar(int calendar) {
            return calendar >= EVEN && calendar <= MOONS;
        }

        private static int firstDay(int calendar, int year) {
            if (calendar == EVEN) {
                return 365 * year;
            }
            if (calendar == LEAP) {
                return 365 * year + (year + 3) / 4;
            }
            // 7 y + 13 passes a multiple of 19 behind each year that has a 13th month.
            return 354 * year + 30 * ((7 * year + 13) / 19);
        }

        /** 0 for a month that the year does not have. */
        private static int monthLength(int calendar, int year, int month) {
            if (month < 1 || month > MOST_MONTHS) {
                return 0;
            }
            if (calendar == EVEN) {
                return month < MOST_MONTHS ? 30 : 5;
            }
            if (calendar == MOONS && month < MOST_MONTHS) {
                return 29 + month % 2;
            }
            if (calendar == MOONS) {
                return (7 * year + 1) % 19 < 7 ? 30 : 0;
            }
            if (month > LEAP_MONTHS.length) {
                return 0;
            }
            return month == 2 && year % 4 == 0 ? 29 : LEAP_MONTHS[month - 1];
        }

        static int yearOf(int calendar, int day) {
            int guess = guessYear(calendar, day);
            // A year's beginning strays from the mean by less than a year.
            if (firstDay(calendar, guess) > day) {
                return guess - 1;
            }
            return firstDay(calendar, guess + 1) <= day ? guess + 1 : guess;
        }

        private static int guessYear(int calendar, int day) {
            if (calendar == EVEN) {
                return day / 365;
            }
            return calendar == LEAP ? 4 * day / 1461 : 19 * day / 6936;
        }

        /** Month and day in one number, so that one walk finds both and makes no object. */
        static int monthDayOf(int calendar, int year, int day) {
            int left = day - firstDay(calendar, year);
            for (int month = 1; month <= MOST_MONTHS; month++) {
                int length = monthLength(calendar, year, month);
                if (left < length) {
                    return month * 100 + left + 1;
                }
                left -= length;
            }
            return 0;
        }

        static int monthIn(int monthDay) {
            return monthDay / 100;
        }

        static int dayIn(int monthDay) {
            return monthDay % 100;
        }

        static int dayOf(int calendar, int year, int month, int dayOfMonth) {
            if (dayOfMonth < 1 || dayOfMonth > monthLength(calendar, year, month)) {
                return NONE;
            }
            int total = firstDay(calendar, year);
            for (int m = 1; m < month && m < MOST_MONTHS; m++) {
                total += monthLength(calendar, year, m);
            }
            return total + dayOfMonth - 1;
        }
    }

    /** The bytes that have been fed and not yet been used. */
    private static final class Tape {
        private static final int MOST_BYTES = 200;
        private static final int FEED_BYTES = 20;
        private static final int MOST_LETTERS = 6;

        private final int[] bytes;
        private int length;

        Tape() {
            bytes = new int[MOST_BYTES];
        }

        int size() {
            return length;
        }

        boolean hasRoom() {
            return length + FEED_BYTES <= MOST_BYTES;
        }

        void addNumber(int number) {
            for (int shift = 24; shift >= 0 && length < MOST_BYTES; shift -= 8) {
                bytes[length] = number >> shift & 255;
                length++;
            }
        }

        boolean cutTo(int n) {
            if (n < 0 || n > length) {
                return false;
            }
            length = n;
            return true;
        }

        void clear() {
            length = 0;
        }

        int byteAt(int i) {
            return i >= 0 && i < length ? bytes[i] : NONE;
        }

        static boolean isLetter(int b) {
            return b >= 'a' && b <= 'z';
        }

        static boolean isDigit(int b) {
            return b >= '0' && b <= '9';
        }

        static boolean isBlank(int b) {
            return b == 10 || b == 32;
        }

        /** A NAME as a number, five bits a letter; NONE when these bytes are no NAME. */
        int nameBetween(int from, int to) {
            if (to <= from || to - from > MOST_LETTERS) {
                return NONE;
            }
            int name = 0;
            for (int i = from; i < to; i++) {
                int b = byteAt(i);
                if (!isLetter(b)) {
                    return NONE;
                }
                name = name << 5 | b - 'a' + 1;
            }
            return name;
        }
    }

    /** The REIGNS, by NAMES as Tape tells them in numbers. */
    private static final class Reigns {
        private static final int MOST_REIGNS = 12;
        private static final int LAST_BEGINNING = 600;

        private final int[] names;
        private final int[] calendars;
        private final int[] years;
        private int count;

        Reigns() {
            names = new int[MOST_REIGNS];
            calendars = new int[MOST_REIGNS];
            years = new int[MOST_REIGNS];
        }

        int begin(int name, int calendar, int year) {
            boolean can = name != NONE && Calendars.isCalendar(calendar) && year >= 0 && year <= LAST_BEGINNING;
            if (!can || count >= MOST_REIGNS || find(name) != NONE) {
                return NONE;
            }
            names[count] = name;
            calendars[count] = calendar;
            years[count] = year;
            count++;
            return count;
        }

        int find(int name) {
            for (int i = 0; i < count; i++) {
                if (names[i] == name) {
                    return i;
                }
            }
            return NONE;
        }

        private boolean isThere(int i) {
            return i >= 0 && i < count;
        }

        int calendarOf(int i) {
            return isThere(i) ? calendars[i] : NONE;
        }

        int firstYearOf(int i) {
            return isThere(i) ? years[i] : NONE;
        }
    }

    /** What one RECORD tells, and what MOONS it means. */
    private static final class Account {
        // More than a RECORD has numbers: no change of them would do.
        private static final int TOO_MANY = PARTS + 1;

        private int kinds;
        private int calendar;
        private int east;
        private int yearZero;
        private final int[] numbers;
        private long slows;
        private int slowsVersion;

        Account() {
            numbers = new int[PARTS];
        }

        void clear(int newEast) {
            kinds = 0;
            calendar = 0;
            east = newEast;
            yearZero = 0;
            for (int part = 0; part < PARTS; part++) {
                numbers[part] = NONE;
            }
            slowsVersion = 0;
        }

        void setKinds(int bits) {
            kinds = bits;
        }

        void setCalendar(int newCalendar) {
            calendar = newCalendar;
        }

        /** The year which the number 0 would tell: of a REIGN, the one ahead of its first. */
        void setYearZero(int year) {
            yearZero = year;
        }

        void setNumber(int part, int number) {
            if (part >= 0 && part < PARTS) {
                numbers[part] = number;
            }
        }

        boolean has(int part) {
            return part >= 0 && part < PARTS && numbers[part] != NONE;
        }

        int countMeant(Sky sky, int s) {
            int size = sky.listEclipses();
            int count = 0;
            for (int i = 0; i < size; i++) {
                if (isMeant(sky, i, s)) {
                    count++;
                }
            }
            return count;
        }

        int findMeant(Sky sky, int s, int which) {
            int size = sky.listEclipses();
            int left = which;
            for (int i = 0; i < size; i++) {
                if (isMeant(sky, i, s)) {
                    if (left == 0) {
                        return sky.moonAt(i);
                    }
                    left--;
                }
            }
            return NONE;
        }

        int leastSlips(Sky sky, int s) {
            int size = sky.listEclipses();
            int least = TOO_MANY;
            for (int i = 0; i < size && least > 0; i++) {
                int hours = hoursSeen(sky, i, s);
                if (hours != NONE) {
                    least = Math.min(least, slipsAt(hours, least - 1));
                }
            }
            return least == TOO_MANY ? NONE : least;
        }

        /** The SLOWS with which this means some, a bit each; kept, for they are dear to find. */
        long slowsLet(Sky sky) {
            if (slowsVersion == sky.tablesVersion()) {
                return slows;
            }
            int size = sky.listEclipses();
            slows = 0;
            for (int i = 0; i < size && slows != ALL_SLOWS; i++) {
                if (isOfKind(sky, i)) {
                    slows |= slowsMeaning(sky, i);
                }
            }
            slowsVersion = sky.tablesVersion();
            return slows;
        }

        /** By hours, not by SLOWS: many SLOWS fall into one hour, and all that is asked hangs on it. */
        private long slowsMeaning(Sky sky, int i) {
            int time = sky.timeAt(i);
            boolean isOfSun = sky.isOfSunAt(i);
            int last = hoursAt(time, MOST_SLOW);
            long found = 0;
            for (int hours = hoursAt(time, 0); hours <= last; hours++) {
                if (isSeenAt(hours, isOfSun) && slipsAt(hours, 0) == 0) {
                    found |= slowsWithin(hours, time);
                }
            }
            return found;
        }

        private long slowsWithin(int hours, int time) {
            long found = 0;
            for (int s = 0; s <= MOST_SLOW; s++) {
                if (hoursAt(time, s) == hours) {
                    found |= 1L << s;
                }
            }
            return found;
        }

        private int hoursAt(int time, int s) {
            return Math.floorDiv(Sky.minuteSeen(time, east, s), 60);
        }

        private boolean isOfKind(Sky sky, int i) {
            return (kinds >> sky.kindAt(i) & 1) != 0;
        }

        private boolean isMeant(Sky sky, int i, int s) {
            int hours = hoursSeen(sky, i, s);
            return hours != NONE && slipsAt(hours, 0) == 0;
        }

        /** How many hours behind DAY 0 an eclipse of this kind is SEEN; NONE if it is not. */
        private int hoursSeen(Sky sky, int i, int s) {
            if (!isOfKind(sky, i)) {
                return NONE;
            }
            int hours = hoursAt(sky.timeAt(i), s);
            return isSeenAt(hours, sky.isOfSunAt(i)) ? hours : NONE;
        }

        private static boolean isSeenAt(int hours, boolean isOfSun) {
            if (hours < 0) {
                return false;
            }
            int hour = hours % 24;
            boolean isLight = hour >= 6 && hour <= 17;
            return isLight == isOfSun;
        }

        /** How many numbers would have to be others then; counted no further once above enough. */
        private int slipsAt(int hours, int enough) {
            int count = slipOf(HOUR, hours % 24);
            if (count > enough || !has(YEAR) && !has(MONTH) && !has(DAY)) {
                return count;
            }
            int today = hours / 24;
            int year = Calendars.yearOf(calendar, today);
            if (has(YEAR) && !canTell(year - yearZero)) {
                return TOO_MANY;
            }
            count += slipOf(YEAR, year - yearZero);
            if (count > enough || !has(MONTH) && !has(DAY)) {
                return count;
            }
            int monthDay = Calendars.monthDayOf(calendar, year, today);
            return count + slipOf(MONTH, Calendars.monthIn(monthDay)) + slipOf(DAY, Calendars.dayIn(monthDay));
        }

        private static boolean canTell(int number) {
            return number >= 0 && number <= MOST_NUMBER;
        }

        private int slipOf(int part, int number) {
            return !has(part) || numbers[part] == number ? 0 : 1;
        }
    }

    /** The RECORDS in their order; accounts behind the last one wait to be used. */
    private static final class Archive {
        private static final int MOST_RECORDS = 8;

        private final Account[] accounts;
        private int count;

        Archive() {
            accounts = new Account[MOST_RECORDS];
            for (int i = 0; i < MOST_RECORDS; i++) {
                accounts[i] = new Account();
            }
        }

        boolean hasRoom() {
            return count < MOST_RECORDS;
        }

        Account spare() {
            return hasRoom() ? accounts[count] : null;
        }

        int keepSpare() {
            if (!hasRoom()) {
                return NONE;
            }
            count++;
            return count - 1;
        }

        Account find(int r) {
            return r >= 0 && r < count ? accounts[r] : null;
        }

        int remove(int r) {
            Account gone = find(r);
            if (gone == null) {
                return NONE;
            }
            for (int i = r; i < count - 1; i++) {
                accounts[i] = accounts[i + 1];
            }
            count--;
            accounts[count] = gone;
            return count;
        }

        long slowsOfAll(Sky sky) {
            long all = ALL_SLOWS;
            for (int i = 0; i < count && all != 0; i++) {
                Account account = find(i);
                if (account != null) {
                    all &= account.slowsLet(sky);
                }
            }
            return all;
        }
    }

    /** Reads a RECORD's TEXT from the tape, sign by sign, up to its first FAULT. */
    private static final class Reader {
        private static final int NOTHING = 0;
        private static final int WORD = 1;
        private static final int NUMBER = 2;
        private static final int OTHER = 3;

        private static final int NO_TEXT = 1;
        private static final int TWICE = 2;
        private static final int NO_REIGN = 3;
        private static final int OUT_OF_RANGE = 4;

        private static final int SUN_KINDS = 14;
        private static final int MOON_KINDS = 48;
        private static final int MOST_DIGITS = 3;
        // Of year, month, day, hour.
        private static final int[] LEAST = {0, 1, 1, 0};
        private static final int[] GREATEST = {MOST_NUMBER, 13, 31, 23};

        private final Tape tape;
        private final Reigns reigns;
        private Account account;
        private int sort;
        private int start;
        private int stop;
        private int calendar;
        private int ruler;
        private int rulerPlace;
        private int fault;
        private int place;

        Reader(Tape newTape, Reigns newReigns) {
            tape = newTape;
            reigns = newReigns;
            place = NONE;
        }

        int faultKind() {
            return fault;
        }

        int faultPlace() {
            return place;
        }

        boolean read(Account target, int east) {
            account = target;
            account.clear(east);
            sort = NOTHING;
            stop = 0;
            calendar = NONE;
            ruler = NONE;
            fault = 0;
            place = NONE;
            advance();
            return readWhat() && readParts() && readCalendar() && readClose() && joinRuler();
        }

        private boolean refuse(int newFault, int newPlace) {
            fault = newFault;
            place = newPlace;
            return false;
        }

        /** Goes to the next sign; behind the last byte it is NOTHING, at the text's length. */
        private void advance() {
            boolean needsBlank = sort == WORD || sort == NUMBER;
            int from = stop;
            start = from;
            while (start < tape.size() && Tape.isBlank(tape.byteAt(start))) {
                start++;
            }
            takeSign();
            if (needsBlank && start == from && (sort == WORD || sort == NUMBER)) {
                // Side by side without a blank: whatever it says, no TEXT goes on with it.
                sort = OTHER;
            }
        }

        private void takeSign() {
            int first = tape.byteAt(start);
            stop = start;
            if (start >= tape.size()) {
                sort = NOTHING;
            } else if (Tape.isLetter(first)) {
                sort = WORD;
                while (stop < tape.size() && Tape.isLetter(tape.byteAt(stop))) {
                    stop++;
                }
            } else if (Tape.isDigit(first)) {
                sort = NUMBER;
                while (stop < tape.size() && Tape.isDigit(tape.byteAt(stop))) {
                    stop++;
                }
            } else {
                sort = OTHER;
                stop = start + 1;
            }
        }

        private boolean isWord(String word) {
            if (sort != WORD || stop - start != word.length()) {
                return false;
            }
            for (int i = 0; i < word.length(); i++) {
                if (tape.byteAt(start + i) != word.charAt(i)) {
                    return false;
                }
            }
            return true;
        }

        private boolean readWhat() {
            boolean isSun = isWord("sun");
            if (!isSun && !isWord("moon")) {
                return refuse(NO_TEXT, start);
            }
            advance();
            int kind = isSun ? sunKind() : moonKind();
            if (kind == 0) {
                account.setKinds(isSun ? SUN_KINDS : MOON_KINDS);
                return true;
            }
            account.setKinds(1 << kind);
            advance();
            return true;
        }

        private int sunKind() {
            if (isWord("total")) {
                return 1;
            }
            if (isWord("ring")) {
                return 2;
            }
            return isWord("part") ? 3 : 0;
        }

        private int moonKind() {
            if (isWord("whole")) {
                return 4;
            }
            return isWord("half") ? 5 : 0;
        }

        private boolean readParts() {
            // Each PART comes once at most, so that behind the last of them only "in" is left.
            for (int i = 0; i <= PARTS; i++) {
                if (isWord("in")) {
                    return true;
                }
                if (!readPart()) {
                    return false;
                }
            }
            return refuse(NO_TEXT, start);
        }

        private int partHere() {
            if (isWord("year")) {
                return YEAR;
            }
            if (isWord("month")) {
                return MONTH;
            }
            if (isWord("day")) {
                return DAY;
            }
            return isWord("hour") ? HOUR : NONE;
        }

        private boolean readPart() {
            int part = partHere();
            if (part == NONE) {
                return refuse(NO_TEXT, start);
            }
            if (account.has(part)) {
                return refuse(TWICE, start);
            }
            advance();
            if (!readNumber(part)) {
                return false;
            }
            advance();
            if (part != YEAR || !isWord("of")) {
                return true;
            }
            advance();
            if (!readRuler()) {
                return false;
            }
            advance();
            return true;
        }

        private boolean readNumber(int part) {
            if (sort != NUMBER) {
                return refuse(NO_TEXT, start);
            }
            if (stop - start > MOST_DIGITS) {
                return refuse(NO_TEXT, start + MOST_DIGITS);
            }
            int number = 0;
            for (int i = start; i < stop; i++) {
                number = number * 10 + tape.byteAt(i) - '0';
            }
            if (part < 0 || part >= PARTS || number < LEAST[part] || number > GREATEST[part]) {
                return refuse(OUT_OF_RANGE, start);
            }
            account.setNumber(part, number);
            return true;
        }

        private boolean readRuler() {
            int name = tape.nameBetween(start, stop);
            if (sort != WORD || name == NONE) {
                return refuse(NO_TEXT, start);
            }
            ruler = reigns.find(name);
            rulerPlace = start;
            if (ruler == NONE) {
                return refuse(NO_REIGN, start);
            }
            return true;
        }

        private boolean readCalendar() {
            advance();
            if (isWord("even")) {
                calendar = Calendars.EVEN;
            } else if (isWord("leap")) {
                calendar = Calendars.LEAP;
            } else if (isWord("moons")) {
                calendar = Calendars.MOONS;
            } else {
                return refuse(NO_TEXT, start);
            }
            account.setCalendar(calendar);
            return true;
        }

        private boolean readClose() {
            advance();
            if (tape.byteAt(start) != ';') {
                return refuse(NO_TEXT, start);
            }
            advance();
            return sort == NOTHING || refuse(NO_TEXT, start);
        }

        /** Only here, behind all else, is the RECORD's CALENDAR known to hold. */
        private boolean joinRuler() {
            if (ruler == NONE) {
                return true;
            }
            if (reigns.calendarOf(ruler) != calendar) {
                return refuse(NO_REIGN, rulerPlace);
            }
            account.setYearZero(reigns.firstYearOf(ruler) - 1);
            return true;
        }
    }
}
