/** The sentences of the document about a new object and the calendar: each inside its boundary and outside. */
public final class CalendarEdgeTest {

    private static final String CALENDAR = "Calendar";
    private static final int[] LENGTHS = {31, 28, 31, 30, 31, 30, 31, 31, 30, 31, 30, 31};

    private CalendarEdgeTest() {
    }

    public static void main(String[] args) {
        aNewObjectIsEmpty();
        objectsAreApart();
        years();
        months();
        lengthsOfMonths();
        leapYears();
        days();
        weekdays();
        localTimes();
        instants();
        dayOfNoDate();
        dateOfNoDay();
        yearOfDay();
        monthOfDay();
        dayOfYear();
        whichOfItsWeekdays();
        whatOfDate();
        Due.end();
    }

    private static void aNewObjectIsEmpty() {
        Due.sentence("Promise 1", "a compiler without zones and meetings");
        Due.row("count", what -> new ZoneCompiler().count(what), 0, 0, 0, 0, 0, 0);
        ZoneCompiler x = new ZoneCompiler();
        Due.thrown("zone(0, 0)", Due.INDEX, () -> x.zone(0, 0));
        Due.thrown("meeting(0, 0)", Due.INDEX, () -> x.meeting(0, 0));
        Due.thrown("agenda(-2000, 0)", Due.ELEMENT, () -> x.agenda(-2000, 0));
        Due.same("free(-2000, 16832719, 1440)", x.free(-2000, 16832719, 1440), -2000);
        Due.thrown("undo()", Due.STATE, x::undo);
        Due.thrown("restore()", Due.STATE, x::restore);
        Due.thrown("run()", Due.ARGUMENT, x::run);
        Due.same("addZone(0)", x.addZone(0), 0);
        Due.same("addMeeting(0, 0, 0, 1, 0, 1)", x.addMeeting(0, 0, 0, 1, 0, 1), 0);
    }

    private static void objectsAreApart() {
        Due.sentence("Promise 1", "a compiler without zones and meetings: also beside another one");
        ZoneCompiler full = Given.europe();
        full.addMeeting(0, 0, 0, 1, 0, 1);
        full.write(0, 0);
        full.save();
        Given.put(full, "zone");
        ZoneCompiler x = new ZoneCompiler();
        Due.row("count", x::count, 0, 0, 0, 0, 0, 0);
        Due.thrown("character(0)", Due.INDEX, () -> x.character(0));
        Due.thrown("restore()", Due.STATE, x::restore);
        x.addZone(-720);
        Due.same("the base of the other object", full.zone(0, 0), 60);
    }

    private static void years() {
        Due.sentence(CALENDAR, "the years 2000 to 2031, which are numbered from 0 to 31");
        Due.range("day(year, 1, 1)", Due.ARGUMENT, 0, 31, year -> new ZoneCompiler().day(year, 1, 1));
        Due.range("eventDay(0, 0, year)", Due.ARGUMENT, 0, 31, year -> Given.europe().eventDay(0, 0, year));
        Due.range("account(0, year, 0)", Due.ARGUMENT, 0, 31, year -> Given.zone(0).account(0, year, 0));
        Due.same("the first year", new ZoneCompiler().date(0, 0), 0);
        Due.same("the last year", new ZoneCompiler().date(11687, 0), 31);
    }

    private static void months() {
        Due.sentence(CALENDAR, "the usual months, numbered from 1 to 12");
        Due.range("day(0, month, 1)", Due.ARGUMENT, 1, 12, month -> new ZoneCompiler().day(0, month, 1));
        Due.range("addRule of a month", Due.ARGUMENT, 1, 12, month -> Given.zone(0).addRule(0, 0, month, 1, 0, 0));
    }

    private static void lengthsOfMonths() {
        Due.sentence(CALENDAR, "the usual months .. and days");
        ZoneCompiler x = new ZoneCompiler();
        for (int year : new int[] {0, 1, 2, 3, 30, 31}) {
            for (int month = 1; month <= 12; month++) {
                int at = month;
                int most = LENGTHS[month - 1] + (month == 2 && year == 0 ? 1 : 0);
                int length = year;
                Due.range("day(" + year + ", " + month + ", day)", Due.ARGUMENT, 1, most,
                        day -> x.day(length, at, day));
            }
        }
    }

    private static void leapYears() {
        Due.sentence(CALENDAR, "the years 2000, 2004, 2008 and so on are leap years");
        ZoneCompiler x = new ZoneCompiler();
        for (int year = 0; year <= 31; year++) {
            int at = year;
            boolean leap = year % 4 == 0;
            Due.thrown("day(" + year + ", 2, 29)", leap ? null : Due.ARGUMENT, () -> x.day(at, 2, 29));
            int last = x.day(at, 12, 31);
            Due.same("the last day of the year " + year, x.date(last, 4), leap ? 366 : 365);
            int march = x.day(at, 3, 1);
            Due.row("March 1 of the year " + year, what -> x.date(march, what), year, 3, 1);
            Due.row("the day ahead of it", what -> x.date(march - 1, what), year, 2, leap ? 29 : 28);
        }
    }

    private static void days() {
        Due.sentence(CALENDAR, "from 0, which is January 1, 2000, to 11687");
        ZoneCompiler x = new ZoneCompiler();
        Due.same("day(0, 1, 1)", x.day(0, 1, 1), 0);
        Due.same("day(31, 12, 31)", x.day(31, 12, 31), 11687);
        Due.range("date(day, 0)", Due.INDEX, 0, 11687, day -> new ZoneCompiler().date(day, 0));
        Due.range("dayLength(0, day)", Due.INDEX, 0, 11687, day -> Given.zone(0).dayLength(0, day));
        Due.range("changeBase(0, day, 0)", Due.ARGUMENT, 0, 11687, day -> Given.zone(0).changeBase(0, day, 0));
        Due.range("addMeeting on a day", Due.ARGUMENT, 0, 11687, day -> Given.zone(0).addMeeting(0, day, 0, 1, 0, 1));
    }

    private static void weekdays() {
        Due.sentence(CALENDAR, "from 0 for Monday to 6 for Sunday; day 0 is a Saturday");
        ZoneCompiler x = new ZoneCompiler();
        Due.row("date(day, 3)", day -> x.date(day, 3), 5, 6, 0, 1, 2, 3, 4, 5, 6, 0);
        Due.same("the last day", x.date(11687, 3), 2);
    }

    private static void localTimes() {
        Due.sentence(CALENDAR, "A local time is .. from 0 to 16830719");
        Due.range("instants(0, local)", Due.ARGUMENT, 0, 16830719, local -> Given.zone(0).instants(0, local));
        Due.range("instantsAgain", Due.ARGUMENT, 0, 16830719, local -> Given.zone(0).instantsAgain(0, local));
        Due.range("cause(0, local)", Due.ARGUMENT, 0, 16830719, local -> Given.zone(0).cause(0, local));
        Due.range("toInstant(0, local, 0)", Due.ARGUMENT, 0, 16830719, local -> Given.zone(0).toInstant(0, local, 0));
        Due.range("convert", Due.ARGUMENT, 0, 16830719, local -> Given.zone(0).convert(0, local, 0, 0));
    }

    private static void instants() {
        Due.sentence(CALENDAR, "An instant is .. from -2000 to 16832719");
        Due.range("offset(0, instant)", Due.ARGUMENT, -2000, 16832719, at -> Given.zone(0).offset(0, at));
        Due.range("offsetAgain(0, instant)", Due.ARGUMENT, -2000, 16832719, at -> Given.zone(0).offsetAgain(0, at));
        Due.range("toLocal(0, instant)", Due.ARGUMENT, -2000, 16832719, at -> Given.zone(0).toLocal(0, at));
    }

    private static void dayOfNoDate() {
        Due.sentence("Promise 2", "Throws IllegalArgumentException if there is no such day");
        ZoneCompiler x = new ZoneCompiler();
        Due.thrown("day(1, 2, 28)", null, () -> x.day(1, 2, 28));
        Due.thrown("day(1, 2, 29)", Due.ARGUMENT, () -> x.day(1, 2, 29));
        Due.thrown("day(0, 2, 30)", Due.ARGUMENT, () -> x.day(0, 2, 30));
        Due.thrown("day(0, 13, 31)", Due.ARGUMENT, () -> x.day(0, 13, 31));
        Due.thrown("day(0, 0, 0)", Due.ARGUMENT, () -> x.day(0, 0, 0));
        Due.thrown("day(32, 1, 1)", Due.ARGUMENT, () -> x.day(32, 1, 1));
        Due.thrown("day(2000, 1, 1)", Due.ARGUMENT, () -> x.day(2000, 1, 1));
    }

    private static void dateOfNoDay() {
        Due.sentence("Promise 3", "Throws IndexOutOfBoundsException if there is no such day");
        ZoneCompiler x = new ZoneCompiler();
        for (int what = 0; what <= 5; what++) {
            int at = what;
            Due.range("date(day, " + what + ")", Due.INDEX, 0, 11687, day -> x.date(day, at));
        }
    }

    private static void yearOfDay() {
        Due.sentence("Promise 3", "0 the number of its year");
        ZoneCompiler x = new ZoneCompiler();
        int[][] due = {{365, 0}, {366, 1}, {730, 1}, {731, 2}, {1095, 2}, {1096, 3}, {1460, 3}, {1461, 4}, {1826, 4},
            {1827, 5}, {11321, 30}, {11322, 30}, {11323, 31}};
        for (int[] at : due) {
            Due.same("date(" + at[0] + ", 0)", x.date(at[0], 0), at[1]);
        }
    }

    private static void monthOfDay() {
        Due.sentence("Promise 3", "1 the month; 2 the day of the month");
        ZoneCompiler x = new ZoneCompiler();
        int[][] due = {{30, 1, 31}, {31, 2, 1}, {59, 2, 29}, {60, 3, 1}, {365, 12, 31}, {366, 1, 1}, {424, 2, 28},
            {425, 3, 1}, {11686, 12, 30}, {11687, 12, 31}};
        for (int[] at : due) {
            Due.same("date(" + at[0] + ", 1)", x.date(at[0], 1), at[1]);
            Due.same("date(" + at[0] + ", 2)", x.date(at[0], 2), at[2]);
        }
    }

    private static void dayOfYear() {
        Due.sentence("Promise 3", "4 the day of the year, from 1");
        ZoneCompiler x = new ZoneCompiler();
        int[][] due = {{0, 1}, {365, 366}, {366, 1}, {730, 365}, {731, 1}, {11687, 365}};
        for (int[] at : due) {
            Due.same("date(" + at[0] + ", 4)", x.date(at[0], 4), at[1]);
        }
    }

    private static void whichOfItsWeekdays() {
        Due.sentence("Promise 3", "5 which one of its weekdays it is in its month, from 1");
        ZoneCompiler x = new ZoneCompiler();
        int[][] due = {{0, 1}, {6, 1}, {7, 2}, {13, 2}, {14, 3}, {20, 3}, {21, 4}, {27, 4}, {28, 5}, {30, 5}, {31, 1}};
        for (int[] at : due) {
            Due.same("date(" + at[0] + ", 5)", x.date(at[0], 5), at[1]);
        }
    }

    private static void whatOfDate() {
        Due.sentence("Promise 3", "Throws IllegalArgumentException if what is not 0 to 5");
        Due.range("date(0, what)", Due.ARGUMENT, 0, 5, what -> new ZoneCompiler().date(0, what));
    }
}
