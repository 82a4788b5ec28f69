/** The boundary cases of Terms II and of promises 7 to 9. */
final class CalendarEdges {
    private static final int EVEN = 0;
    private static final int LEAP = 1;
    private static final int MOONS = 2;
    private static final int LEAST = Integer.MIN_VALUE;
    private static final int MOST = Integer.MAX_VALUE;

    private final Edges edges;

    CalendarEdges(Edges edges) {
        this.edges = edges;
    }

    void run() {
        days();
        even();
        leap();
        moons();
        placesAndSlows();
        sunSeen();
        moonSeen();
        belowZero();
        date();
        day();
        seen();
    }

    private void isDate(int day, int calendar, int... date) {
        EclipseHouse x = new EclipseHouse();
        for (int what = 0; what < 3; what++) {
            edges.is("date(" + day + ", " + calendar + ", " + what + ")", x.date(day, calendar, what), date[what]);
        }
        isDay(calendar, date[0], date[1], date[2], day);
    }

    private void isDay(int calendar, int year, int month, int day, int want) {
        edges.is("day(" + calendar + ", " + year + ", " + month + ", " + day + ")",
            new EclipseHouse().day(calendar, year, month, day), want);
    }

    private void means(String text, int east, int s, int want) {
        EclipseHouse x = new EclipseHouse();
        edges.is(text, Texts.record(x, text, east), 0);
        edges.is("means with east " + east + ", SLOW " + s + ": " + text, x.means(0, s), want);
    }

    private void days() {
        edges.sentence("Terms", "A DAY is 1440 minutes, DAY 0 begins at minute 0.");
        means("sun year 0 month 1 day 1 hour 6 in even;", 0, 0, 1);
        // MOON 11 is seen at minute 1226 of DAY 162 in east 0.
        means("moon year 0 month 6 day 13 hour 23 in even;", 1439 - 1226, 0, 1);
        means("moon year 0 month 6 day 13 in even;", 1440 - 1226, 0, 0);
        means("moon year 0 month 6 day 14 hour 0 in even;", 1440 - 1226, 0, 1);
        means("moon year 0 month 6 day 14 in even;", 1439 - 1226, 0, 0);

        edges.sentence("Terms", "CALENDARS, year 0, month 1, day 1 being DAY 0:");
        for (int calendar : new int[] {EVEN, LEAP, MOONS}) {
            isDate(0, calendar, 0, 1, 1);
            isDate(1, calendar, 0, 1, 2);
        }
    }

    private void even() {
        edges.sentence("Terms", "0 EVEN: 12 months of 30 days, a 13th one of 5;");
        for (int month = 1; month <= 12; month++) {
            isDate(30 * month - 30, EVEN, 0, month, 1);
            isDate(30 * month - 1, EVEN, 0, month, 30);
            isDay(EVEN, 0, month, 31, -1);
        }
        isDate(360, EVEN, 0, 13, 1);
        isDate(364, EVEN, 0, 13, 5);
        isDay(EVEN, 0, 13, 6, -1);
        isDate(365, EVEN, 1, 1, 1);
        isDate(365 * 4 + 364, EVEN, 4, 13, 5);
        isDate(365 * 5, EVEN, 5, 1, 1);
    }

    private void leap() {
        edges.sentence("Terms", "1 LEAP: months of 31, 28, 31, 30, 31, 30, 31, 31, 30, 31, 30, 31 days,");
        int[] lengths = {31, 28, 31, 30, 31, 30, 31, 31, 30, 31, 30, 31};
        int first = 366;
        for (int month = 1; month <= 12; month++) {
            int length = lengths[month - 1];
            isDate(first, LEAP, 1, month, 1);
            isDate(first + length - 1, LEAP, 1, month, length);
            isDay(LEAP, 1, month, length + 1, -1);
            first += length;
        }
        isDate(366 + 365, LEAP, 2, 1, 1);
        isDay(LEAP, 1, 13, 1, -1);

        edges.sentence("Terms", "the second one of 29 in years that 4 divides;");
        int[][] divided = {{0, 59}, {4, 1520}, {100, 36584}, {200, 73109}, {400, 146159}};
        for (int[] d : divided) {
            isDate(d[1], LEAP, d[0], 2, 29);
            isDate(d[1] + 1, LEAP, d[0], 3, 1);
            isDay(LEAP, d[0], 2, 30, -1);
        }
        isDay(LEAP, 1096, 2, 29, 400373);
        isDay(LEAP, 1100, 2, 29, 401834);
        int[][] others = {{1, 424}, {2, 789}, {3, 1154}};
        for (int[] d : others) {
            isDate(d[1], LEAP, d[0], 2, 28);
            isDate(d[1] + 1, LEAP, d[0], 3, 1);
            isDay(LEAP, d[0], 2, 29, -1);
        }
        isDate(365, LEAP, 0, 12, 31);
        isDate(366, LEAP, 1, 1, 1);
        isDate(1460, LEAP, 3, 12, 31);
        isDate(1461, LEAP, 4, 1, 1);
        isDate(1826, LEAP, 4, 12, 31);
        isDate(1827, LEAP, 5, 1, 1);
    }

    private void moons() {
        edges.sentence("Terms", "2 MOONS: months of 30 and 29 days in turn, 12 of them,");
        int first = 384;
        for (int month = 1; month <= 12; month++) {
            int length = month % 2 == 1 ? 30 : 29;
            isDate(first, MOONS, 1, month, 1);
            isDate(first + length - 1, MOONS, 1, month, length);
            isDay(MOONS, 1, month, length + 1, -1);
            first += length;
        }
        isDate(738, MOONS, 2, 1, 1);

        edges.sentence("Terms", "and a 13th one of 30 in years y for which (7 y + 1) modulo 19 is below 7.");
        isDate(3276, MOONS, 8, 13, 1);
        isDate(3305, MOONS, 8, 13, 30);
        isDay(MOONS, 8, 13, 31, -1);
        isDate(3306, MOONS, 9, 1, 1);
        isDate(3659, MOONS, 9, 12, 29);
        isDay(MOONS, 9, 13, 1, -1);
        isDate(3660, MOONS, 10, 1, 1);
        isDate(6197, MOONS, 16, 12, 29);
        isDay(MOONS, 16, 13, 1, -1);
        isDate(6198, MOONS, 17, 1, 1);
        isDate(6581, MOONS, 17, 13, 30);
        isDate(6582, MOONS, 18, 1, 1);
        isDate(6936, MOONS, 19, 1, 1);
        isDay(MOONS, 1100, 13, 30, 401933);
    }

    private void placesAndSlows() {
        edges.sentence("Terms", "SEEN from a place so many minutes east (-720 .. 720),");
        EclipseHouse x = new EclipseHouse();
        edges.is("farthest west", x.seen(0, -720, 0), -306);
        edges.is("farthest east", x.seen(0, 720, 0), 1134);
        edges.is("too far west", x.seen(0, -721, 0), -1000000);
        edges.is("too far east", x.seen(0, 721, 0), -1000000);

        edges.sentence("Terms", "the day having grown by SLOW s (0 .. 60):");
        edges.is("the least", x.seen(11010, 0, 0), 234095575);
        edges.is("one more", x.seen(11010, 0, 1), 234095594);
        edges.is("the greatest", x.seen(11010, 0, 60), 234096763);
        edges.is("too small", x.seen(11010, 0, -1), -1000000);
        edges.is("too great", x.seen(11010, 0, 61), -1000000);

        edges.sentence("Terms", "at the minute TIME and east and floor(s y y / 10000), y = floor(TIME / 525600);");
        edges.is("0.864 of year 12, floored", x.seen(321, 0, 60), 6825487);
        edges.is("1.014 of year 13, floored", x.seen(322, 0, 60), 6847952);
        edges.is("year 13 with SLOW 59: 0.9971, floored", x.seen(322, 0, 59), 6847951);
        edges.is("541.0175 of year 485, floored", x.seen(12000, 0, 23), 255145576 + 541);
        edges.is("1411.35 of year 485, floored", x.seen(12000, 0, 60), 255145576 + 1411);
        x.tables(5000, 0, 0);
        edges.is("the first minute of year 375", x.seen(9270, 0, 60), 197100843);
        x.tables(11400, 0, 0);
        edges.is("the last minute of year 392", x.seen(9715, 0, 60), 206561720);
        edges.is("east does not count for the year", x.seen(9715, 720, 60), 206562440);
    }

    /** MOON 0 is a RING at minute 414. */
    private void sunSeen() {
        edges.sentence("Terms", "and the hour then (floor of the DAY's minute / 60) is 6 to 17 for the SUN,");
        String text = "sun year 0 month 1 day 1 in even;";
        means(text, 359 - 414, 0, 0);
        means(text, 360 - 414, 0, 1);
        means(text, 1079 - 414, 0, 1);
        means(text, 1080 - 414, 0, 0);
        means(text, -414, 0, 0);
        means("sun year 0 month 1 day 1 hour 6 in even;", 419 - 414, 0, 1);
        means("sun year 0 month 1 day 1 hour 7 in even;", 419 - 414, 0, 0);
        means("sun year 0 month 1 day 1 hour 7 in even;", 420 - 414, 0, 1);
        means("sun year 0 month 1 day 1 hour 17 in even;", 1079 - 414, 0, 1);
    }

    /** MOON 11 is a HALF at minute 1226 of DAY 162. */
    private void moonSeen() {
        edges.sentence("Terms", "not 6 to 17 for the MOON.");
        String today = "moon year 0 month 6 day 13 in even;";
        String tomorrow = "moon year 0 month 6 day 14 in even;";
        means(today, 1079 - 1226, 0, 0);
        means(today, 1080 - 1226, 0, 1);
        means(today, 1439 - 1226, 0, 1);
        means(tomorrow, 1440 - 1226, 0, 1);
        means(tomorrow, 1440 + 359 - 1226, 0, 1);
        means(tomorrow, 1440 + 360 - 1226, 0, 0);
        means(today, 720 - 1226, 0, 0);
    }

    private void belowZero() {
        edges.sentence("Terms", "it is SEEN, if that is not below 0,");
        EclipseHouse x = new EclipseHouse();
        x.tables(9000, 27000, 0);
        edges.is("MOON 0 is a RING", x.moon(0, 4), 2);
        edges.is("ahead of DAY 0, at hour 14 of the DAY ahead", x.seen(0, -720, 60), -554);
        Texts.record(x, "sun in even;", -720);
        edges.is("another one is the first", x.meant(0, 60, 0) > 0, true);
        Texts.record(x, "sun year 0 month 1 day 1 in even;", -720);
        edges.is("it is not on DAY 0", x.means(1, 60), 0);
        Texts.record(x, "sun hour 14 month 13 day 5 year 0 in even;", -720);
        edges.is("nor is it at hour 14 of some DAY", x.means(2, 60), 0);
        Texts.record(x, "sun in even;", 360 - 166);
        edges.is("not below 0, at hour 6", x.meant(3, 60, 0), 0);
    }

    private void date() {
        edges.sentence("Promise 7", "DAY (0 .. 400000) in a CALENDAR: 0 year, 1 month, 2 day;");
        isDate(0, EVEN, 0, 1, 1);
        isDate(400000, EVEN, 1095, 11, 26);
        isDate(400000, LEAP, 1095, 2, 21);
        isDate(400000, MOONS, 1095, 9, 15);

        edges.sentence("Promise 7", "NONE when there is none such.");
        EclipseHouse x = new EclipseHouse();
        for (int none : new int[] {-1, 400001, LEAST, MOST}) {
            for (int calendar = 0; calendar < 3; calendar++) {
                for (int what = 0; what < 3; what++) {
                    edges.is("date(" + none + ", " + calendar + ", " + what + ")", x.date(none, calendar, what), -1);
                }
            }
        }
        for (int none : new int[] {-1, 3, LEAST, MOST}) {
            for (int what = 0; what < 3; what++) {
                edges.is("date(0, " + none + ", " + what + ")", x.date(0, none, what), -1);
                edges.is("date(400000, " + what + ", " + none + ")", x.date(400000, what, none), -1);
            }
        }
    }

    private void day() {
        edges.sentence("Promise 8", "Which DAY a date is;");
        isDay(EVEN, 0, 1, 1, 0);
        isDay(EVEN, 1095, 11, 26, 400000);
        isDay(LEAP, 1095, 2, 21, 400000);
        isDay(MOONS, 1095, 9, 15, 400000);
        isDay(EVEN, 1100, 1, 1, 401500);
        isDay(LEAP, 1100, 1, 1, 401775);
        isDay(MOONS, 1100, 1, 1, 401550);
        isDay(EVEN, 1100, 13, 5, 401864);
        isDay(LEAP, 1100, 12, 31, 402140);
        isDay(MOONS, 1100, 13, 30, 401933);

        edges.sentence("Promise 8", "NONE when there is none such (year 0 .. 1100).");
        for (int calendar = 0; calendar < 3; calendar++) {
            isDay(calendar, 0, 1, 1, 0);
            for (int year : new int[] {-1, 1101, -4, LEAST, MOST}) {
                isDay(calendar, year, 1, 1, -1);
            }
            for (int month : new int[] {0, 14, -1, LEAST, MOST}) {
                isDay(calendar, 0, month, 1, -1);
            }
            for (int day : new int[] {0, -1, 32, LEAST, MOST}) {
                isDay(calendar, 0, 1, day, -1);
                isDay(calendar, 0, 13, day, -1);
            }
        }
        for (int calendar : new int[] {-1, 3, LEAST, MOST}) {
            isDay(calendar, 0, 1, 1, -1);
        }
        isDay(EVEN, 0, 1, 31, -1);
        isDay(EVEN, 0, 13, 6, -1);
        isDay(LEAP, 0, 4, 31, -1);
        isDay(LEAP, 0, 13, 1, -1);
        isDay(LEAP, 1, 2, 29, -1);
        isDay(MOONS, 0, 2, 30, -1);
        isDay(MOONS, 1, 13, 1, -1);
    }

    private void seen() {
        edges.sentence("Promise 9", "The minute at which MOON k is seen from a place with SLOW s (it need be no eclipse);");
        EclipseHouse x = new EclipseHouse();
        edges.is("an eclipse", x.seen(0, 0, 0), 414);
        edges.is("no eclipse", x.seen(1, 0, 0), 22894);
        edges.is("the last MOON, no eclipse", x.seen(12000, 720, 60), 255147707);
        edges.is("below 0 is a minute, too", x.seen(0, -720, 60), -306);
        x.tables(9000, 27000, 0);
        edges.is("the least minute of all", x.seen(0, -720, 60), -554);

        edges.sentence("Promise 9", "-1000000 when something can't be.");
        for (int none : new int[] {-1, 12001, LEAST, MOST}) {
            edges.is("seen(" + none + ", 0, 0)", x.seen(none, 0, 0), -1000000);
        }
        for (int none : new int[] {-721, 721, LEAST, MOST}) {
            edges.is("seen(0, " + none + ", 0)", x.seen(0, none, 0), -1000000);
        }
        for (int none : new int[] {-1, 61, LEAST, MOST}) {
            edges.is("seen(0, 0, " + none + ")", x.seen(0, 0, none), -1000000);
        }
    }
}
