/** Promises 7 to 9: date, day, seen. */
public final class CalendarTest {
    private static final Due DUE = new Due("CalendarTest");

    public static void main(String[] args) {
        dates();
        everyDayThereAndBack();
        wrongDates();
        lastYears();
        seen();
        everyMoonSeen();
        DUE.finish();
    }

    private static void isDate(EclipseHouse x, int day, int calendar, int... date) {
        for (int what = 0; what < 3; what++) {
            DUE.is("date(" + day + ", " + calendar + ", " + what + ")", x.date(day, calendar, what), date[what]);
        }
        DUE.is("day of date(" + day + ", " + calendar + ")", x.day(calendar, date[0], date[1], date[2]), day);
    }

    private static void dates() {
        EclipseHouse x = new EclipseHouse();
        for (int calendar = 0; calendar < 3; calendar++) {
            isDate(x, 0, calendar, 0, 1, 1);
        }
        isDate(x, 29, 0, 0, 1, 30);
        isDate(x, 30, 0, 0, 2, 1);
        isDate(x, 359, 0, 0, 12, 30);
        isDate(x, 360, 0, 0, 13, 1);
        isDate(x, 364, 0, 0, 13, 5);
        isDate(x, 365, 0, 1, 1, 1);
        isDate(x, 30, 1, 0, 1, 31);
        isDate(x, 59, 1, 0, 2, 29);
        isDate(x, 60, 1, 0, 3, 1);
        isDate(x, 365, 1, 0, 12, 31);
        isDate(x, 366, 1, 1, 1, 1);
        isDate(x, 366 + 58, 1, 1, 2, 28);
        isDate(x, 366 + 59, 1, 1, 3, 1);
        isDate(x, 1461 + 59, 1, 4, 2, 29);
        isDate(x, 100 * 365 + 25 + 59, 1, 100, 2, 29);
        isDate(x, 29, 2, 0, 1, 30);
        isDate(x, 30, 2, 0, 2, 1);
        isDate(x, 58, 2, 0, 2, 29);
        isDate(x, 353, 2, 0, 12, 29);
        isDate(x, 354, 2, 0, 13, 1);
        isDate(x, 383, 2, 0, 13, 30);
        isDate(x, 384, 2, 1, 1, 1);
        isDate(x, 384 + 353, 2, 1, 12, 29);
        isDate(x, 384 + 354, 2, 2, 1, 1);
    }

    private static void everyDayThereAndBack() {
        for (int calendar = 0; calendar < 3; calendar++) {
            EclipseHouse x = new EclipseHouse();
            int year = 0;
            int month = 1;
            int day = 1;
            for (int i = 0; i <= 400000; i++) {
                if (i % 80 == 0) {
                    // An object is promised for 512 calls, and a day takes six.
                    x = new EclipseHouse();
                }
                if (x.date(i, calendar, 0) != year || x.date(i, calendar, 1) != month || x.date(i, calendar, 2) != day
                    || x.day(calendar, year, month, day) != i) {
                    DUE.is("day " + i + " in calendar " + calendar, 0, 1);
                    return;
                }
                day++;
                if (x.day(calendar, year, month, day) < 0) {
                    day = 1;
                    month++;
                }
                if (x.day(calendar, year, month, day) < 0) {
                    month = 1;
                    year++;
                }
            }
        }
    }

    private static void wrongDates() {
        EclipseHouse x = new EclipseHouse();
        for (int day : new int[] {-1, 400001, Integer.MIN_VALUE, Integer.MAX_VALUE}) {
            DUE.is("date(" + day + ")", x.date(day, 0, 0), -1);
        }
        for (int n : new int[] {-1, 3, Integer.MIN_VALUE, Integer.MAX_VALUE}) {
            DUE.is("calendar " + n, x.date(0, n, 0), -1);
            DUE.is("what " + n, x.date(0, 0, n), -1);
            DUE.is("day(" + n + ")", x.day(n, 0, 1, 1), -1);
        }
        int[][] wrong = {{0, -1, 1, 1}, {0, 1101, 1, 1}, {0, 0, 0, 1}, {0, 0, 14, 1}, {0, 0, 1, 0}, {0, 0, 1, 31}, {0, 0, 13, 6},
            {1, 0, 13, 1}, {1, 0, 1, 32}, {1, 0, 2, 30}, {1, 1, 2, 29}, {1, 0, 4, 31}, {2, 0, 1, 31}, {2, 0, 2, 30}, {2, 0, 13, 31},
            {2, 1, 13, 1}, {2, 0, 14, 1}, {2, 0, 1, -1}, {0, Integer.MIN_VALUE, 1, 1}, {0, Integer.MAX_VALUE, 1, 1},
            {0, 0, Integer.MIN_VALUE, 1}, {0, 0, Integer.MAX_VALUE, 1}, {0, 0, 1, Integer.MIN_VALUE}, {0, 0, 1, Integer.MAX_VALUE}};
        for (int[] w : wrong) {
            DUE.is("day(" + w[0] + ", " + w[1] + ", " + w[2] + ", " + w[3] + ")", x.day(w[0], w[1], w[2], w[3]), -1);
        }
        int longYears = 0;
        for (int year = 0; year < 19; year++) {
            boolean isLong = x.day(2, year, 13, 30) >= 0;
            DUE.is("13 months in year " + year, isLong, (7 * year + 1) % 19 < 7);
            longYears += isLong ? 1 : 0;
        }
        DUE.is("years of 13 months in 19", longYears, 7);
    }

    private static void lastYears() {
        EclipseHouse x = new EclipseHouse();
        DUE.is("last day of EVEN", x.day(0, 1100, 13, 5), 365 * 1101 - 1);
        DUE.is("last day of LEAP", x.day(1, 1100, 12, 31), 365 * 1101 + 276 - 1);
        DUE.is("first day of the last year of MOONS", x.day(2, 1100, 1, 1), 354 * 1100 + 30 * 405);
    }

    private static void everyMoonSeen() {
        EclipseHouse x = new EclipseHouse();
        for (int k = 0; k <= 12000; k++) {
            if (k % 250 == 0) {
                // An object is promised for 512 calls.
                x = new EclipseHouse();
            }
            long time = x.moon(k, 3);
            long y = time / 525600;
            DUE.is("seen(" + k + ", -3, 60)", x.seen(k, -3, 60), time - 3 + 60 * y * y / 10000);
        }
        x = new EclipseHouse();
        x.tables(5000, 0, 0);
        DUE.is("TIME at a year's first minute", x.moon(9270, 3), 375 * 525600);
        DUE.is("y is 375 then", x.seen(9270, 0, 60), 375 * 525600 + 843);
        x.tables(11400, 0, 0);
        DUE.is("TIME at a year's last minute", x.moon(9715, 3), 393 * 525600 - 1);
        DUE.is("y is 392 then", x.seen(9715, 0, 60), 393 * 525600 - 1 + 921);
    }

    private static void seen() {
        EclipseHouse x = new EclipseHouse();
        DUE.is("seen(0, 0, 0)", x.seen(0, 0, 0), 414);
        DUE.is("seen(0, -720, 60)", x.seen(0, -720, 60), -306);
        DUE.is("seen(0, 720, 60)", x.seen(0, 720, 60), 1134);
        for (int k : new int[] {1, 24, 25, 500, 6001, 11010, 12000}) {
            // An object is promised for 512 calls.
            x = new EclipseHouse();
            for (int s = 0; s <= 60; s++) {
                long time = x.moon(k, 3);
                long y = time / 525600;
                DUE.is("seen(" + k + ", 7, " + s + ")", x.seen(k, 7, s), time + 7 + s * y * y / 10000);
            }
        }
        for (int k : new int[] {-1, 12001, Integer.MIN_VALUE, Integer.MAX_VALUE}) {
            DUE.is("seen(" + k + ")", x.seen(k, 0, 0), -1000000);
        }
        for (int east : new int[] {-721, 721, Integer.MIN_VALUE, Integer.MAX_VALUE}) {
            DUE.is("east " + east, x.seen(0, east, 0), -1000000);
        }
        for (int s : new int[] {-1, 61, Integer.MIN_VALUE, Integer.MAX_VALUE}) {
            DUE.is("slow " + s, x.seen(0, 0, s), -1000000);
        }
    }
}
