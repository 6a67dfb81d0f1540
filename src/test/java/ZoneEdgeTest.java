import java.time.DayOfWeek;
import java.time.LocalDate;
import java.time.YearMonth;
import java.time.temporal.TemporalAdjusters;

/** The sentences of the document about zones, rules and changes: each inside its boundary and outside. */
public final class ZoneEdgeTest {

    private static final String ZONES = "Zones";
    private static final String RULES = "Rules";
    private static final LocalDate ZERO = LocalDate.of(2000, 1, 1);

    private ZoneEdgeTest() {
    }

    public static void main(String[] args) {
        sixZones();
        eightRules();
        fourChanges();
        bases();
        yearsOfRules();
        minutesOfRules();
        clocks();
        savings();
        dates();
        daysOfTheMonth();
        weekdaysOfTheMonth();
        lastWeekdays();
        weekdaysBehindDays();
        allDates();
        orderOfRules();
        droppedRules();
        whatRemains();
        orderOfChanges();
        zonesThatAreNot();
        numbersOfAZone();
        numbersOfARule();
        yearsOfEvents();
        Due.end();
    }

    private static void sixZones() {
        Due.sentence(ZONES, "at most 6 zones, numbered from 0");
        ZoneCompiler x = new ZoneCompiler();
        Due.row("addZone", i -> x.addZone(i), 0, 1, 2, 3, 4, 5);
        Due.thrown("a seventh zone", Due.STATE, () -> x.addZone(0));
        Due.same("count(0)", x.count(0), 6);
        Due.row("the base", zone -> x.zone(zone, 0), 0, 1, 2, 3, 4, 5);
        x.undo();
        Due.same("a sixth zone again", x.addZone(9), 5);
    }

    private static void eightRules() {
        Due.sentence(ZONES, "at most 8 rules");
        ZoneCompiler x = Given.zone(0);
        x.addZone(0);
        Due.row("addRule", i -> x.addRule(0, 0, 1, 1 + i, 0, 0), 0, 1, 2, 3, 4, 5, 6, 7);
        Due.thrown("a ninth rule", Due.STATE, () -> x.addRule(0, 0, 1, 9, 0, 0));
        Due.same("the rules", x.zone(0, 1), 8);
        Due.same("a rule of the other zone", x.addRule(1, 0, 1, 9, 0, 0), 0);
        x.dropRule(0, 0);
        Due.same("an eighth rule again", x.addRule(0, 0, 1, 9, 0, 0), 7);
        Due.thrown("a ninth rule again", Due.STATE, () -> x.addRule(0, 0, 1, 10, 0, 0));
    }

    private static void fourChanges() {
        Due.sentence(ZONES, "at most 4 changes of the base");
        ZoneCompiler x = Given.zone(0);
        x.addZone(0);
        Due.row("changeBase", i -> x.changeBase(0, i, i), 0, 1, 2, 3);
        Due.thrown("a fifth change", Due.STATE, () -> x.changeBase(0, 5, 5));
        Due.same("the changes", x.zone(0, 2), 4);
        Due.same("a change of the other zone", x.changeBase(1, 5, 5), 0);
        x.undo();
        x.undo();
        Due.same("a fourth change again", x.changeBase(0, 3, 7), 3);
    }

    private static void bases() {
        Due.sentence(ZONES, "A base is a number of minutes from -720 to 840");
        Due.range("addZone(base)", Due.ARGUMENT, -720, 840, base -> new ZoneCompiler().addZone(base));
        Due.range("changeBase(0, 0, base)", Due.ARGUMENT, -720, 840, base -> Given.zone(0).changeBase(0, 0, base));
        ZoneCompiler x = Given.zone(-720);
        x.addZone(840);
        Due.same("the least base", x.zone(0, 0), -720);
        Due.same("the least offset", x.offset(0, 0), -720);
        x.addRule(1, 0, 1, 1, 2, 120);
        Due.same("the greatest offset", x.offset(1, 0), 960);
        Due.same("the greatest base", x.zone(1, 0), 840);
    }

    private static void yearsOfRules() {
        Due.sentence("Promise 6",
                "100 times the number of the first year plus that of the last one, which is not less");
        Due.inside("addRule of years", years -> Given.zone(0).addRule(0, years, 1, 1, 0, 0),
                0, 31, 101, 131, 1515, 3031, 3131);
        Due.outside("addRule of years", Due.ARGUMENT, years -> Given.zone(0).addRule(0, years, 1, 1, 0, 0),
                -1, 32, 99, 100, 132, 1514, 3032, 3130, 3132, 3199, 3200, 3232, -69, -100, -3131, Integer.MIN_VALUE,
                Integer.MAX_VALUE);
        ZoneCompiler x = Given.zone(0);
        x.addRule(0, 31, 1, 1, 0, 0);
        x.addRule(0, 3131, 1, 1, 0, 0);
        Due.row("the first year", rule -> x.rule(0, rule, 0), 0, 31);
        Due.row("the last year", rule -> x.rule(0, rule, 1), 31, 31);
    }

    private static void minutesOfRules() {
        Due.sentence("Promise 6", "10 times the minute of the day plus the clock");
        Due.inside("addRule when", when -> Given.zone(0).addRule(0, 0, 1, 1, when, 0),
                0, 1, 2, 10, 14390, 14391, 14392);
        Due.outside("addRule when", Due.ARGUMENT, when -> Given.zone(0).addRule(0, 0, 1, 1, when, 0),
                -1, -8, -10, 3, 9, 14393, 14399, 14400, 14402, Integer.MIN_VALUE, Integer.MAX_VALUE);
        ZoneCompiler x = Given.zone(0);
        x.addRule(0, 0, 1, 1, 14392, 0);
        Due.same("the last minute", x.rule(0, 0, 4), 1439);
        Due.same("the clock", x.rule(0, 0, 5), 2);
    }

    private static void clocks() {
        Due.sentence(RULES, "A clock is 0 for the wall, 1 for the base, or 2 for the instants");
        Due.inside("addRule of a clock", clock -> Given.zone(0).addRule(0, 0, 1, 1, 600 + clock, 0), 0, 1, 2);
        Due.outside("addRule of a clock", Due.ARGUMENT, clock -> Given.zone(0).addRule(0, 0, 1, 1, 600 + clock, 0),
                3, 4, 9);
    }

    private static void savings() {
        Due.sentence(RULES, "a saving from 0 to 120 minutes");
        Due.range("addRule of a saving", Due.ARGUMENT, 0, 120, saving -> Given.zone(0).addRule(0, 0, 1, 1, 0, saving));
    }

    private static void dates() {
        Due.sentence(RULES, "A date is a number: from 1 to 31 ..; 100 * n + w ..; 500 + w ..; 1000 + 10 * m + w");
        Due.inside("addRule of a date", date -> Given.zone(0).addRule(0, 0, 1, date, 0, 0),
                1, 31, 100, 106, 200, 206, 300, 306, 400, 406, 500, 506, 1010, 1016, 1020, 1306, 1310, 1316);
        Due.outside("addRule of a date", Due.ARGUMENT, date -> Given.zone(0).addRule(0, 0, 1, date, 0, 0),
                0, -1, 32, 99, 107, 199, 207, 299, 307, 399, 407, 499, 507, 599, 600, 606, 700, 906, 999, 1000, 1006,
                1009, 1017, 1019, 1027, 1307, 1309, 1317, 1319, 1320, 1326, 2010, -100, -506, Integer.MIN_VALUE,
                Integer.MAX_VALUE);
    }

    /** The answer of eventDay for a rule of a date in a month of all years, -1 if there is none. */
    private static int eventDay(int date, int year, int month) {
        ZoneCompiler x = Given.zone(0);
        x.addRule(0, 31, month, date, 0, 0);
        try {
            return x.eventDay(0, 0, year);
        } catch (java.util.NoSuchElementException none) {
            return -1;
        }
    }

    private static void daysOfTheMonth() {
        Due.sentence(RULES, "from 1 to 31 the day of the month .. If there is no such day in this month, .. no event");
        Due.same("January 1", eventDay(1, 0, 1), 0);
        Due.same("January 31", eventDay(31, 0, 1), 30);
        Due.same("February 29 of a leap year", eventDay(29, 4, 2), 1461 + 59);
        Due.same("February 29 of another year", eventDay(29, 5, 2), -1);
        Due.same("February 30", eventDay(30, 4, 2), -1);
        Due.same("April 30", eventDay(30, 0, 4), 120);
        Due.same("April 31", eventDay(31, 0, 4), -1);
        Due.same("December 31 of the last year", eventDay(31, 31, 12), 11687);
    }

    private static void weekdaysOfTheMonth() {
        Due.sentence(RULES, "100 * n + w the n-th weekday w of the month, n from 1 to 4");
        Due.same("the 1st is a Saturday", eventDay(105, 0, 1), 0);
        Due.same("the 7th is a Friday", eventDay(104, 0, 1), 6);
        Due.same("the 8th is the second Saturday", eventDay(205, 0, 1), 7);
        Due.same("the 22nd is the fourth Saturday", eventDay(405, 0, 1), 21);
        Due.same("the 28th is the fourth Friday", eventDay(404, 0, 1), 27);
        Due.same("February 28, 2001, is the fourth Wednesday", eventDay(402, 1, 2), 366 + 58);
    }

    private static void lastWeekdays() {
        Due.sentence(RULES, "500 + w the last weekday w of the month");
        Due.same("the 31st is a Monday", eventDay(500, 0, 1), 30);
        Due.same("the 25th is the last Tuesday", eventDay(501, 0, 1), 24);
        Due.same("the fifth one", eventDay(505, 0, 1), 28);
        Due.same("the fourth one", eventDay(504, 0, 1), 27);
        Due.same("February 29, 2000, is a Tuesday", eventDay(501, 0, 2), 59);
        Due.same("December 31 of the last year", eventDay(502, 31, 12), 11687);
    }

    private static void weekdaysBehindDays() {
        Due.sentence(RULES,
                "the first weekday w that is on or behind the day m .. If there is no such day, .. no event");
        Due.same("on the day", eventDay(1015, 0, 1), 0);
        Due.same("6 days behind it", eventDay(1014, 0, 1), 6);
        Due.same("on the last day", eventDay(1310, 0, 1), 30);
        Due.same("the last day, from 6 days ahead of it on", eventDay(1250, 0, 1), 30);
        Due.same("from 5 days ahead of it on, the day behind the month", eventDay(1261, 0, 1), -1);
        Due.same("behind the last day", eventDay(1311, 0, 1), -1);
        Due.same("from a day on that the month has not", eventDay(1310, 0, 4), -1);
        Due.same("from February 29 on", eventDay(1291, 0, 2), 59);
        Due.same("from February 29 on where there is none", eventDay(1291, 1, 2), -1);
        Due.same("not in the next month, a Thursday", eventDay(1293, 1, 2), -1);
        Due.same("not in the next year", eventDay(1310, 31, 12), -1);
    }

    /** Each date in each month of each year. */
    private static void allDates() {
        Due.sentence(RULES, "each date");
        for (int month = 1; month <= 12; month++) {
            for (int date = 1; date <= 1316; date++) {
                boolean isDate = date <= 31 || date >= 100 && date <= 506 && date % 100 <= 6
                        || date >= 1010 && date % 10 <= 6;
                if (isDate) {
                    allYears(month, date);
                }
            }
        }
    }

    private static void allYears(int month, int date) {
        ZoneCompiler x = Given.zone(0);
        x.addRule(0, 31, month, date, 0, 0);
        int events = 0;
        for (int year = 0; year <= 31; year++) {
            LocalDate due = dueDate(YearMonth.of(2000 + year, month), date);
            int at = year;
            String call = "eventDay of month " + month + ", date " + date + ", year " + year;
            if (due == null) {
                Due.thrown(call, Due.ELEMENT, () -> x.eventDay(0, 0, at));
            } else {
                events++;
                Due.same(call, x.eventDay(0, 0, year), due.toEpochDay() - ZERO.toEpochDay());
            }
        }
        Due.same("the events of month " + month + ", date " + date, x.zone(0, 5), events);
    }

    private static LocalDate dueDate(YearMonth month, int date) {
        DayOfWeek weekday = DayOfWeek.of(date % 10 % 7 + 1);
        LocalDate first = month.atDay(1);
        if (date <= 31) {
            return month.isValidDay(date) ? month.atDay(date) : null;
        }
        if (date < 500) {
            return first.with(TemporalAdjusters.dayOfWeekInMonth(date / 100, weekday));
        }
        if (date < 1000) {
            return first.with(TemporalAdjusters.lastInMonth(weekday));
        }
        LocalDate found = first.plusDays(date / 10 - 101).with(TemporalAdjusters.nextOrSame(weekday));
        return YearMonth.from(found).equals(month) ? found : null;
    }

    private static void orderOfRules() {
        Due.sentence(RULES, "The rules of a zone are numbered from 0 in the order in which they were added");
        ZoneCompiler x = Given.zone(0);
        Due.same("a late rule", x.addRule(0, 3131, 12, 31, 14390, 5), 0);
        Due.same("an early rule", x.addRule(0, 0, 1, 1, 0, 6), 1);
        Due.same("the same one", x.addRule(0, 0, 1, 1, 0, 6), 2);
        Due.row("the month", rule -> x.rule(0, rule, 2), 12, 1, 1);
    }

    private static void droppedRules() {
        Due.sentence("Promise 7", "Throws IndexOutOfBoundsException if there is no such zone or rule");
        Due.range("dropRule(0, rule)", Due.INDEX, 0, 1, rule -> Given.europe().dropRule(0, rule));
        Due.range("dropRule(zone, 0)", Due.INDEX, 0, 0, zone -> Given.europe().dropRule(zone, 0));
        Due.thrown("dropRule of a zone without rules", Due.INDEX, () -> Given.zone(0).dropRule(0, 0));
    }

    private static void whatRemains() {
        Due.sentence("Promise 7", "the numbers of the later ones of the zone decrease by 1");
        ZoneCompiler x = Given.zone(0);
        x.addZone(0);
        for (int i = 0; i < 8; i++) {
            x.addRule(0, 31, i + 1, i + 1, 10 * i, i);
        }
        x.addRule(1, 31, 11, 1, 0, 0);
        Due.same("the last one", x.dropRule(0, 7), 7);
        Due.row("the months", rule -> x.rule(0, rule, 2), 1, 2, 3, 4, 5, 6, 7);
        Due.same("the first one", x.dropRule(0, 0), 6);
        Due.row("the months", rule -> x.rule(0, rule, 2), 2, 3, 4, 5, 6, 7);
        Due.same("one between", x.dropRule(0, 2), 5);
        Due.row("the months", rule -> x.rule(0, rule, 2), 2, 3, 5, 6, 7);
        Due.row("the savings", rule -> x.rule(0, rule, 6), 1, 2, 4, 5, 6);
        Due.row("dropRule(0, 0)", i -> x.dropRule(0, 0), 4, 3, 2, 1, 0);
        Due.same("the other zone's rule", x.rule(1, 0, 2), 11);
        Due.thrown("dropRule of none", Due.INDEX, () -> x.dropRule(0, 0));
    }

    private static void orderOfChanges() {
        Due.sentence("Changes of the base", "numbered from 0 in the order in which they were added");
        ZoneCompiler x = Given.zone(0);
        Due.same("a late change", x.changeBase(0, 11687, 10), 0);
        Due.same("an early change", x.changeBase(0, 0, 20), 1);
        Due.same("one between", x.changeBase(0, 5000, 30), 2);
        Due.same("the last one there can be", x.changeBase(0, 9000, 40), 3);
        Due.row("the change of a transition", i -> x.transition(0, i, 4), 101, 102, 103, 100);
    }

    private static void zonesThatAreNot() {
        Due.sentence("Promises 5 to 10", "Throws IndexOutOfBoundsException if there is no such zone");
        Due.range("changeBase", Due.INDEX, 0, 1, zone -> twoZones().changeBase(zone, 0, 0));
        Due.range("addRule", Due.INDEX, 0, 1, zone -> twoZones().addRule(zone, 0, 1, 1, 0, 0));
        Due.range("dropRule", Due.INDEX, 0, 1, zone -> twoZones().dropRule(zone, 0));
        Due.range("zone", Due.INDEX, 0, 1, zone -> twoZones().zone(zone, 0));
        Due.range("rule", Due.INDEX, 0, 1, zone -> twoZones().rule(zone, 0, 0));
        Due.range("eventDay", Due.INDEX, 0, 1, zone -> twoZones().eventDay(zone, 0, 0));
        Due.sentence("Promises 9 and 10", "Throws IndexOutOfBoundsException if there is no such zone or rule");
        Due.range("rule", Due.INDEX, 0, 1, rule -> Given.europe().rule(0, rule, 0));
        Due.range("eventDay", Due.INDEX, 0, 1, rule -> Given.europe().eventDay(0, rule, 0));
        ZoneCompiler x = Given.europe();
        x.dropRule(0, 0);
        Due.thrown("rule(0, 1, 0) behind dropRule", Due.INDEX, () -> x.rule(0, 1, 0));
        Due.thrown("eventDay(0, 1, 0) behind dropRule", Due.INDEX, () -> x.eventDay(0, 1, 0));
    }

    private static ZoneCompiler twoZones() {
        ZoneCompiler x = Given.europe();
        x.addZone(0);
        x.addRule(1, 31, 1, 1, 0, 0);
        return x;
    }

    private static void numbersOfAZone() {
        Due.sentence("Promise 8", "Throws IllegalArgumentException if what is not 0 to 8");
        Due.range("zone(0, what)", Due.ARGUMENT, 0, 8, what -> Given.zone(0).zone(0, what));
        Due.sentence("Promise 8", "0 the first base; .. 8 the least offset");
        ZoneCompiler empty = Given.zone(-90);
        Due.row("a zone without rules", what -> empty.zone(0, what), -90, 0, 0, 0, 0, 0, -90, -90, -90);
        ZoneCompiler x = Given.zone(0);
        x.changeBase(0, 10, -30);
        x.changeBase(0, 20, -5);
        x.changeBase(0, 20, -6);
        x.addRule(0, 1, 1, 16, 0, 100);
        // Offsets 0, -30, 70 and 95; the third change is void, and the rule's second event changes nothing.
        Due.row("a zone with all", what -> x.zone(0, what), 0, 1, 3, 3, 1, 5, 95, 95, -30);
    }

    private static void numbersOfARule() {
        Due.sentence("Promise 9", "Throws IllegalArgumentException if what is not 0 to 6");
        Due.range("rule(0, 0, what)", Due.ARGUMENT, 0, 6, what -> Given.europe().rule(0, 0, what));
        ZoneCompiler x = Given.zone(0);
        x.addRule(0, 102, 12, 1316, 14391, 120);
        Due.row("rule(0, 0, what)", what -> x.rule(0, 0, what), 1, 2, 12, 1316, 1439, 1, 120);
    }

    private static void yearsOfEvents() {
        Due.sentence("Promise 10", "Throws NoSuchElementException if the rule has no event in this year");
        ZoneCompiler x = Given.zone(0);
        x.addRule(0, 1012, 1, 1, 0, 0);
        Due.inside("eventDay of the years 10 to 12", year -> x.eventDay(0, 0, year), 10, 11, 12);
        Due.outside("eventDay of another year", Due.ELEMENT, year -> x.eventDay(0, 0, year), 0, 9, 13, 31);
        Due.outside("eventDay of no year", Due.ARGUMENT, year -> x.eventDay(0, 0, year), -1, 32, 2010);
    }
}
