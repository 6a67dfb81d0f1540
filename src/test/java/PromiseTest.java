import java.time.LocalDate;

/** The promises 1 to 42, one after the other: ordinary numbers, edges and wrong ones. */
public final class PromiseTest {

    private static final int LEAST = Integer.MIN_VALUE;
    private static final int MOST = Integer.MAX_VALUE;

    private PromiseTest() {
    }

    public static void main(String[] args) {
        aNewObject();
        calendar();
        zonesAndRules();
        events();
        transitions();
        offsets();
        conversions();
        oddConversions();
        lengths();
        addMeeting();
        recur();
        cancelAndShift();
        occurrences();
        nextClashAgenda();
        driftAndFree();
        append();
        run();
        errors();
        commandErrors();
        write();
        undo();
        save();
        count();
        Due.end();
    }

    private static void aNewObject() {
        ZoneCompiler x = new ZoneCompiler();
        for (int what = 0; what <= 5; what++) {
            Due.same(1, "count(" + what + ")", x.count(what), 0);
        }
        Due.same(1, "errorPosition()", x.errorPosition(), -1);
        Due.thrown(1, "zone(0, 0)", Due.INDEX, () -> x.zone(0, 0));
        Due.thrown(1, "meeting(0, 0)", Due.INDEX, () -> x.meeting(0, 0));
        Due.thrown(1, "character(0)", Due.INDEX, () -> x.character(0));
        Due.thrown(1, "undo()", Due.STATE, x::undo);
        Due.thrown(1, "restore()", Due.STATE, x::restore);
    }

    private static void calendar() {
        ZoneCompiler x = new ZoneCompiler();
        Due.same(2, "day(0, 1, 1)", x.day(0, 1, 1), 0);
        Due.same(2, "day(0, 2, 29)", x.day(0, 2, 29), 59);
        Due.same(2, "day(0, 3, 1)", x.day(0, 3, 1), 60);
        Due.same(2, "day(1, 1, 1)", x.day(1, 1, 1), 366);
        Due.same(2, "day(1, 3, 1)", x.day(1, 3, 1), 425);
        Due.same(2, "day(4, 1, 1)", x.day(4, 1, 1), 1461);
        Due.same(2, "day(31, 12, 31)", x.day(31, 12, 31), 11687);
        Due.thrown(2, "day(1, 2, 29)", Due.ARGUMENT, () -> x.day(1, 2, 29));
        Due.thrown(2, "day(0, 2, 30)", Due.ARGUMENT, () -> x.day(0, 2, 30));
        Due.thrown(2, "day(0, 4, 31)", Due.ARGUMENT, () -> x.day(0, 4, 31));
        int[][] none = {{-1, 1, 1}, {32, 1, 1}, {0, 0, 1}, {0, 13, 1}, {0, 1, 0}, {0, 1, 32}, {LEAST, LEAST, LEAST},
            {MOST, MOST, MOST}};
        for (int[] at : none) {
            Due.thrown(2, "day of no date", Due.ARGUMENT, () -> x.day(at[0], at[1], at[2]));
        }
        // Each day of the calendar; an object is for 512 calls.
        ZoneCompiler y = x;
        for (int day = 0; day <= 11687; day++) {
            if (day % 64 == 0) {
                y = new ZoneCompiler();
            }
            LocalDate date = LocalDate.of(2000, 1, 1).plusDays(day);
            int year = date.getYear() - 2000;
            Due.same(2, "day", y.day(year, date.getMonthValue(), date.getDayOfMonth()), day);
            int[] due = {year, date.getMonthValue(), date.getDayOfMonth(), date.getDayOfWeek().getValue() - 1,
                date.getDayOfYear(), (date.getDayOfMonth() + 6) / 7};
            for (int what = 0; what <= 5; what++) {
                Due.same(3, "date(" + day + ", " + what + ")", y.date(day, what), due[what]);
            }
        }
        Due.same(3, "date(0, 3)", x.date(0, 3), 5);
        Due.same(3, "date(2, 3)", x.date(2, 3), 0);
        Due.same(3, "date(11687, 3)", x.date(11687, 3), 2);
        Due.same(3, "date(11687, 4)", x.date(11687, 4), 365);
        Due.same(3, "date(365, 4)", x.date(365, 4), 366);
        Due.same(3, "date(59, 2)", x.date(59, 2), 29);
        Due.same(3, "date(59, 5)", x.date(59, 5), 5);
        Due.same(3, "date(6, 5)", x.date(6, 5), 1);
        Due.same(3, "date(7, 5)", x.date(7, 5), 2);
        Due.thrown(3, "date(-1, 9)", Due.INDEX, () -> x.date(-1, 9));
        Due.thrown(3, "date(11688, 0)", Due.INDEX, () -> x.date(11688, 0));
        Due.thrown(3, "date(0, -1)", Due.ARGUMENT, () -> x.date(0, -1));
        Due.thrown(3, "date(0, 6)", Due.ARGUMENT, () -> x.date(0, 6));
    }

    private static void zonesAndRules() {
        ZoneCompiler x = new ZoneCompiler();
        Due.thrown(4, "addZone(-721)", Due.ARGUMENT, () -> x.addZone(-721));
        Due.thrown(4, "addZone(841)", Due.ARGUMENT, () -> x.addZone(841));
        for (int i = 0; i < 6; i++) {
            Due.same(4, "addZone", x.addZone(i == 0 ? -720 : 840), i);
        }
        Due.thrown(4, "a seventh zone", Due.STATE, () -> x.addZone(0));
        Due.thrown(4, "a seventh zone of no base", Due.ARGUMENT, () -> x.addZone(900));
        Due.same(8, "zone(0, 0)", x.zone(0, 0), -720);
        Due.same(8, "zone(5, 0)", x.zone(5, 0), 840);

        Due.thrown(5, "changeBase(6, ..)", Due.INDEX, () -> x.changeBase(6, -1, 0));
        Due.thrown(5, "changeBase of no day", Due.ARGUMENT, () -> x.changeBase(0, 11688, 0));
        Due.thrown(5, "changeBase of no day", Due.ARGUMENT, () -> x.changeBase(0, -1, 0));
        Due.thrown(5, "changeBase to no base", Due.ARGUMENT, () -> x.changeBase(0, 0, 841));
        for (int i = 0; i < 4; i++) {
            Due.same(5, "changeBase", x.changeBase(0, i == 3 ? 11687 : i, i), i);
        }
        Due.thrown(5, "a fifth change", Due.STATE, () -> x.changeBase(0, 5, 0));
        Due.thrown(5, "a fifth change of no day", Due.ARGUMENT, () -> x.changeBase(0, -5, 0));
        Due.same(8, "zone(0, 2)", x.zone(0, 2), 4);

        int[][] wrong = {{3100, 1, 1, 0, 0}, {-1, 1, 1, 0, 0}, {32, 1, 1, 0, 0}, {3200, 1, 1, 0, 0}, {31, 0, 1, 0, 0},
            {31, 13, 1, 0, 0}, {31, 1, 0, 0, 0}, {31, 1, 32, 0, 0}, {31, 1, 99, 0, 0}, {31, 1, 107, 0, 0},
            {31, 1, 507, 0, 0}, {31, 1, 600, 0, 0}, {31, 1, 1000, 0, 0}, {31, 1, 1009, 0, 0}, {31, 1, 1017, 0, 0},
            {31, 1, 1320, 0, 0}, {31, 1, 1317, 0, 0}, {31, 1, -1, 0, 0}, {31, 1, 1, 3, 0}, {31, 1, 1, -1, 0},
            {31, 1, 1, 14400, 0}, {31, 1, 1, 0, -1}, {31, 1, 1, 0, 121}, {LEAST, LEAST, LEAST, LEAST, LEAST},
            {MOST, MOST, MOST, MOST, MOST}, {31, 1, 1, MOST, 0}, {31, 1, MOST, 0, 0}};
        for (int[] at : wrong) {
            Due.thrown(6, "addRule of " + at[0] + ", " + at[1] + ", " + at[2] + ", " + at[3] + ", " + at[4],
                    Due.ARGUMENT,
                    () -> x.addRule(1, at[0], at[1], at[2], at[3], at[4]));
        }
        Due.thrown(6, "addRule(-1, ..)", Due.INDEX, () -> x.addRule(-1, -1, 0, 0, 0, 0));
        int[] dates = {1, 31, 100, 406, 500, 506, 1010, 1316};
        for (int i = 0; i < 8; i++) {
            Due.same(6, "addRule", x.addRule(1, 100 * i + 31, i + 5, dates[i], 14380 + i % 3, 15 * i), i);
        }
        Due.thrown(6, "a ninth rule", Due.STATE, () -> x.addRule(1, 31, 1, 1, 0, 0));
        Due.thrown(6, "a ninth rule of no month", Due.ARGUMENT, () -> x.addRule(1, 31, 0, 1, 0, 0));

        int[] last = {7, 31, 12, 1316, 1438, 1, 105};
        for (int what = 0; what <= 6; what++) {
            Due.same(9, "rule(1, 7, " + what + ")", x.rule(1, 7, what), last[what]);
        }
        Due.thrown(9, "rule(1, 8, 9)", Due.INDEX, () -> x.rule(1, 8, 9));
        Due.thrown(9, "rule(1, -1, 0)", Due.INDEX, () -> x.rule(1, -1, 0));
        Due.thrown(9, "rule(6, 0, 0)", Due.INDEX, () -> x.rule(6, 0, 0));
        Due.thrown(9, "rule(1, 0, 7)", Due.ARGUMENT, () -> x.rule(1, 0, 7));
        Due.thrown(9, "rule(1, 0, -1)", Due.ARGUMENT, () -> x.rule(1, 0, -1));

        Due.thrown(7, "dropRule(1, 8)", Due.INDEX, () -> x.dropRule(1, 8));
        Due.thrown(7, "dropRule(6, 0)", Due.INDEX, () -> x.dropRule(6, 0));
        Due.same(7, "dropRule(1, 2)", x.dropRule(1, 2), 7);
        Due.same(7, "rule(1, 1, 3)", x.rule(1, 1, 3), 31);
        Due.same(7, "rule(1, 2, 3)", x.rule(1, 2, 3), 406);
        Due.same(7, "rule(1, 6, 3)", x.rule(1, 6, 3), 1316);
        Due.same(7, "dropRule(1, 6)", x.dropRule(1, 6), 6);
        Due.same(7, "zone(1, 1)", x.zone(1, 1), 6);
        Due.thrown(8, "zone(6, 9)", Due.INDEX, () -> x.zone(6, 9));
        Due.thrown(8, "zone(0, 9)", Due.ARGUMENT, () -> x.zone(0, 9));
        Due.thrown(8, "zone(0, -1)", Due.ARGUMENT, () -> x.zone(0, -1));

        ZoneCompiler y = Given.europe();
        int[] numbers = {60, 2, 0, 64, 0, 64, 60, 120, 60};
        for (int what = 0; what <= 8; what++) {
            Due.same(8, "zone(0, " + what + ")", y.zone(0, what), numbers[what]);
        }
    }

    private static void events() {
        ZoneCompiler x = new ZoneCompiler();
        x.addZone(0);
        x.addRule(0, 31, 2, 29, 0, 0);
        x.addRule(0, 105, 1, 500, 0, 0);
        x.addRule(0, 31, 2, 400, 0, 0);
        x.addRule(0, 31, 4, 1296, 0, 0);
        x.addRule(0, 31, 2, 1290, 0, 0);
        Due.same(10, "February 29", x.eventDay(0, 0, 0), 59);
        Due.same(10, "February 29", x.eventDay(0, 0, 28), 365 * 28 + 7 + 59);
        Due.thrown(10, "no February 29", Due.ELEMENT, () -> x.eventDay(0, 0, 1));
        Due.thrown(10, "ahead of the first year", Due.ELEMENT, () -> x.eventDay(0, 1, 0));
        Due.thrown(10, "behind the last year", Due.ELEMENT, () -> x.eventDay(0, 1, 6));
        Due.same(10, "the last Monday of January 2001", x.eventDay(0, 1, 1), 366 + 28);
        Due.same(10, "the 4th Monday of February 2000", x.eventDay(0, 2, 0), 58);
        Due.same(10, "the first Sunday from April 29, 2000 on", x.eventDay(0, 3, 0), 120);
        Due.thrown(10, "no Sunday from April 29, 2002 on", Due.ELEMENT, () -> x.eventDay(0, 3, 2));
        Due.thrown(10, "no February 29, 2001, nor a Monday behind it", Due.ELEMENT, () -> x.eventDay(0, 4, 1));
        Due.same(10, "in the first year", x.eventDay(0, 1, 1), 394);
        Due.same(10, "in the last year", x.eventDay(0, 1, 5), 1461 + 366 + 30);
        x.addRule(0, 0, 1, 1, 2, 60);
        x.addRule(0, 31, 1, 31, 0, 0);
        Due.same(10, "January 1, 2000", x.eventDay(0, 5, 0), 0);
        Due.same(10, "January 31, 2000", x.eventDay(0, 6, 0), 30);
        Due.same(11, "a transition on January 1, 2000", x.transition(0, 0, 0), 0);
        x.dropRule(0, 6);
        x.dropRule(0, 5);
        Due.thrown(10, "eventDay(0, 5, 32)", Due.INDEX, () -> x.eventDay(0, 5, 32));
        Due.thrown(10, "eventDay(1, 0, 0)", Due.INDEX, () -> x.eventDay(1, 0, 0));
        Due.thrown(10, "eventDay(0, 0, 32)", Due.ARGUMENT, () -> x.eventDay(0, 0, 32));
        Due.thrown(10, "eventDay(0, 0, -1)", Due.ARGUMENT, () -> x.eventDay(0, 0, -1));
    }

    private static void transitions() {
        ZoneCompiler x = Given.europe();
        int[] first = {1440 * Given.SPRING + 60, 60, 120, 60, 0};
        int[] second = {1440 * Given.AUTUMN + 60, 120, 60, 0, 1};
        for (int what = 0; what <= 4; what++) {
            Due.same(11, "transition(0, 0, " + what + ")", x.transition(0, 0, what), first[what]);
            Due.same(11, "transition(0, 1, " + what + ")", x.transition(0, 1, what), second[what]);
        }
        Due.thrown(11, "transition(1, 0, 0)", Due.INDEX, () -> x.transition(1, 0, 0));
        Due.thrown(11, "transition(0, 64, 9)", Due.ELEMENT, () -> x.transition(0, 64, 9));
        Due.thrown(11, "transition(0, -1, 0)", Due.ELEMENT, () -> x.transition(0, -1, 0));
        Due.thrown(11, "transition(0, 63, 5)", Due.ARGUMENT, () -> x.transition(0, 63, 5));
        Due.thrown(11, "transition(0, 63, -1)", Due.ARGUMENT, () -> x.transition(0, 63, -1));

        // By the clocks: wall less base and saving, base less base, instants as they are.
        ZoneCompiler y = new ZoneCompiler();
        y.addZone(100);
        y.addRule(0, 0, 1, 2, 0, 30);
        y.addRule(0, 0, 1, 3, 0, 50);
        y.addRule(0, 0, 1, 4, 1, 70);
        y.addRule(0, 0, 1, 5, 2, 90);
        y.changeBase(0, 5, -20);
        Due.same(11, "the wall without saving", y.transition(0, 0, 0), 1440 - 100);
        Due.same(11, "the wall with saving", y.transition(0, 1, 0), 2880 - 130);
        Due.same(11, "the base", y.transition(0, 2, 0), 4320 - 100);
        Due.same(11, "the instants", y.transition(0, 3, 0), 5760);
        Due.same(11, "a change by the wall", y.transition(0, 4, 0), 7200 - 190);
        Due.same(11, "the offset behind a change", y.transition(0, 4, 2), 70);
        Due.same(11, "the saving behind a change", y.transition(0, 4, 3), 90);
        Due.same(11, "the source of a change", y.transition(0, 4, 4), 100);
        Due.same(11, "a change by which nothing changes", y.changeBase(0, 9, -20), 1);
        Due.same(11, "is no transition", y.zone(0, 3), 5);
        Due.same(11, "nor a void event", y.zone(0, 4), 0);

        // Like times: changes ahead of rules, each by their numbers. What is then not behind the transition is void.
        ZoneCompiler z = new ZoneCompiler();
        z.addZone(0);
        z.addRule(0, 0, 1, 11, 0, 60);
        z.changeBase(0, 10, 60);
        z.changeBase(0, 10, 0);
        Due.same(12, "transitions", z.zone(0, 3), 1);
        Due.same(12, "the change is first", z.transition(0, 0, 4), 100);
        Due.same(12, "void events", z.zone(0, 4), 2);
        Due.same(12, "events", z.zone(0, 5), 3);
        Due.same(12, "its time", z.voidEvent(0, 0, 0), 14400);
        Due.same(12, "its instant", z.voidEvent(0, 0, 1), 14400 - 60);
        Due.same(12, "its change", z.voidEvent(0, 0, 2), 101);
        Due.same(12, "then the rule", z.voidEvent(0, 1, 2), 0);
        z.addRule(0, 0, 1, 11, 600, 60);
        Due.same(12, "at the same instant as the transition", z.zone(0, 4), 3);
        Due.same(12, "its rule", z.voidEvent(0, 2, 2), 1);
        z.addRule(0, 0, 1, 11, 610, 60);
        Due.same(12, "a minute behind it", z.zone(0, 4), 3);
        Due.same(11, "a minute behind it", z.transition(0, 1, 0), 14401);
        z.dropRule(0, 1);
        // As many transitions as there can be: each event of 8 rules in 32 years and of 4 changes is one.
        ZoneCompiler w = new ZoneCompiler();
        w.addZone(0);
        for (int i = 0; i < 8; i++) {
            w.addRule(0, 31, i + 1, 1, 2, i % 2 == 0 ? 60 : 0);
        }
        for (int i = 0; i < 4; i++) {
            w.changeBase(0, 366 * i + 300, 10 * (i + 1));
        }
        Due.same(11, "transitions", w.zone(0, 3), 260);
        Due.same(11, "the last one", w.transition(0, 259, 1), 100);
        Due.same(11, "the last one", w.transition(0, 259, 2), 40);
        Due.same(13, "the last offset", w.offset(0, 16832719), 40);
        Due.same(14, "the last offset", w.offsetAgain(0, 16832719), 40);
        Due.thrown(12, "voidEvent(1, 0, 0)", Due.INDEX, () -> z.voidEvent(1, 0, 0));
        Due.thrown(12, "voidEvent(0, 2, 3)", Due.ELEMENT, () -> z.voidEvent(0, 2, 3));
        Due.thrown(12, "voidEvent(0, -1, 0)", Due.ELEMENT, () -> z.voidEvent(0, -1, 0));
        Due.thrown(12, "voidEvent(0, 0, 3)", Due.ARGUMENT, () -> z.voidEvent(0, 0, 3));
        Due.thrown(12, "voidEvent(0, 0, -1)", Due.ARGUMENT, () -> z.voidEvent(0, 0, -1));
    }

    private static void offsets() {
        ZoneCompiler x = Given.europe();
        int spring = 1440 * Given.SPRING + 60;
        int[][] due = {{-2000, 60}, {spring - 1, 60}, {spring, 120}, {1440 * Given.AUTUMN + 59, 120},
            {1440 * Given.AUTUMN + 60, 60},
            {16832719, 60}};
        for (int[] at : due) {
            Due.same(13, "offset(0, " + at[0] + ")", x.offset(0, at[0]), at[1]);
            Due.same(14, "offsetAgain(0, " + at[0] + ")", x.offsetAgain(0, at[0]), at[1]);
            Due.same(15, "toLocal(0, " + at[0] + ")", x.toLocal(0, at[0]), at[0] + at[1]);
        }
        // Changes on the last and the first day of a year, between the events of a rule.
        ZoneCompiler y = new ZoneCompiler();
        y.addZone(0);
        y.changeBase(0, 366, 30);
        y.changeBase(0, 365, 60);
        y.changeBase(0, 11687, 90);
        y.changeBase(0, 0, -90);
        y.addRule(0, 31, 7, 4, 2, 15);
        int[][] changed = {{-1, 0}, {0, -90}, {1440 * 185, -75}, {1440 * 365 + 74, -75}, {1440 * 365 + 75, 75},
            {1440 * 366 - 76, 75}, {1440 * 366 - 75, 45}, {16832719, 105}};
        for (int[] at : changed) {
            Due.same(13, "offset with changes at " + at[0], y.offset(0, at[0]), at[1]);
            Due.same(14, "offsetAgain with changes at " + at[0], y.offsetAgain(0, at[0]), at[1]);
        }
        Due.thrown(13, "offset(1, MOST)", Due.INDEX, () -> x.offset(1, MOST));
        Due.thrown(13, "offset(0, -2001)", Due.ARGUMENT, () -> x.offset(0, -2001));
        Due.thrown(13, "offset(0, 16832720)", Due.ARGUMENT, () -> x.offset(0, 16832720));
        Due.thrown(14, "offsetAgain(1, MOST)", Due.INDEX, () -> x.offsetAgain(1, MOST));
        Due.thrown(14, "offsetAgain(0, -2001)", Due.ARGUMENT, () -> x.offsetAgain(0, -2001));
        Due.thrown(14, "offsetAgain(0, 16832720)", Due.ARGUMENT, () -> x.offsetAgain(0, 16832720));
        Due.thrown(15, "toLocal(1, MOST)", Due.INDEX, () -> x.toLocal(1, MOST));
        Due.thrown(15, "toLocal(0, -2001)", Due.ARGUMENT, () -> x.toLocal(0, -2001));
        Due.thrown(15, "toLocal(0, 16832720)", Due.ARGUMENT, () -> x.toLocal(0, 16832720));
    }

    private static void conversions() {
        ZoneCompiler x = Given.europe();
        x.addZone(-300);
        int gap = 1440 * Given.SPRING + 120;
        int fold = 1440 * Given.AUTUMN + 120;
        int[][] many = {{0, 1}, {gap - 1, 1}, {gap, 0}, {gap + 59, 0}, {gap + 60, 1}, {fold - 1, 1}, {fold, 2},
            {fold + 59, 2}, {fold + 60, 1}, {16830719, 1}};
        for (int[] at : many) {
            Due.same(16, "instants(0, " + at[0] + ")", x.instants(0, at[0]), at[1]);
            Due.same(17, "instantsAgain(0, " + at[0] + ")", x.instantsAgain(0, at[0]), at[1]);
            int cause = at[1] == 1 ? -1 : at[0] < fold ? 0 : 1;
            Due.same(18, "cause(0, " + at[0] + ")", x.cause(0, at[0]), cause);
        }
        int local = gap + 20;
        Due.same(19, "mode 0 in a gap", x.toInstant(0, local, 0), local - 60);
        Due.same(19, "mode 1 in a gap", x.toInstant(0, local, 1), local - 120);
        Due.same(19, "mode 2 in a gap", x.toInstant(0, local, 2), gap - 60);
        Due.thrown(19, "mode 3 in a gap", Due.UNSUPPORTED, () -> x.toInstant(0, local, 3));
        Due.same(19, "mode 0 in a fold", x.toInstant(0, fold + 20, 0), fold - 100);
        Due.same(19, "mode 1 in a fold", x.toInstant(0, fold + 20, 1), fold - 40);
        Due.same(19, "mode 2 in a fold", x.toInstant(0, fold + 20, 2), fold - 100);
        Due.thrown(19, "mode 3 in a fold", Due.UNSUPPORTED, () -> x.toInstant(0, fold + 20, 3));
        Due.same(19, "mode 3 elsewhere", x.toInstant(0, fold + 60, 3), fold);
        Due.same(19, "an instant below 0", x.toInstant(0, 0, 0), -60);
        Due.same(20, "convert", x.convert(0, 1000, 1, 3), 640);
        Due.same(20, "convert to itself moves out of a gap", x.convert(0, local, 0, 0), local + 60);
        Due.same(20, "convert below 0", x.convert(0, 0, 1, 0), -360);
        Due.same(20, "convert behind the calendar", x.convert(1, 16830719, 0, 0), 16830719 + 360);
        Due.thrown(20, "convert in a gap", Due.UNSUPPORTED, () -> x.convert(0, local, 1, 3));
        Due.thrown(20, "convert to no zone", Due.INDEX, () -> x.convert(0, -1, 2, 9));
        Due.thrown(20, "convert from no zone", Due.INDEX, () -> x.convert(2, -1, 0, 9));
        for (int no : new int[] {-1, 16830720, LEAST, MOST}) {
            Due.thrown(16, "instants of no local time", Due.ARGUMENT, () -> x.instants(0, no));
            Due.thrown(17, "instantsAgain of no local time", Due.ARGUMENT, () -> x.instantsAgain(0, no));
            Due.thrown(18, "cause of no local time", Due.ARGUMENT, () -> x.cause(0, no));
            Due.thrown(19, "toInstant of no local time", Due.ARGUMENT, () -> x.toInstant(0, no, 0));
            Due.thrown(20, "convert of no local time", Due.ARGUMENT, () -> x.convert(0, no, 0, 0));
            Due.thrown(16, "instants of no zone", Due.INDEX, () -> x.instants(2, no));
            Due.thrown(17, "instantsAgain of no zone", Due.INDEX, () -> x.instantsAgain(-1, no));
            Due.thrown(18, "cause of no zone", Due.INDEX, () -> x.cause(2, no));
            Due.thrown(19, "toInstant of no zone", Due.INDEX, () -> x.toInstant(2, no, 9));
        }
        Due.thrown(19, "toInstant of mode 4", Due.ARGUMENT, () -> x.toInstant(0, gap, 4));
        Due.thrown(19, "toInstant of mode -1", Due.ARGUMENT, () -> x.toInstant(0, gap, -1));
        Due.thrown(20, "convert of mode 4", Due.ARGUMENT, () -> x.convert(0, gap, 0, 4));
    }

    /** Two changes back in short succession give three instants; a change forth and back ends a gap early. */
    private static void oddConversions() {
        ZoneCompiler x = new ZoneCompiler();
        x.addZone(240);
        x.addRule(0, 0, 1, 20, 2, 120);
        x.addRule(0, 0, 1, 21, 2, 60);
        x.addRule(0, 0, 1, 21, 302, 0);
        int second = 1440 * 20;
        int third = second + 30;
        Due.same(16, "three instants", x.instants(0, third + 280), 3);
        Due.same(17, "three instants", x.instantsAgain(0, third + 280), 3);
        Due.same(18, "of two transitions the first", x.cause(0, third + 280), 1);
        Due.same(18, "two instants around two transitions", x.cause(0, third + 250), 1);
        Due.same(19, "the first of three", x.toInstant(0, third + 280, 0), third + 280 - 360);
        Due.same(19, "the last of three", x.toInstant(0, third + 280, 1), third + 40);

        ZoneCompiler y = new ZoneCompiler();
        y.addZone(0);
        y.addRule(0, 0, 1, 20, 2, 120);
        y.addRule(0, 0, 1, 20, 302, 0);
        int there = 1440 * 19;
        Due.same(16, "no gap: the way back fills it", y.instants(0, there + 10), 0);
        Due.same(16, "the gap ends with the way back", y.instants(0, there + 30), 1);
        Due.same(16, "a local time of both", y.instants(0, there + 130), 2);
        Due.same(16, "behind the way back", y.instants(0, there + 150), 1);
        Due.same(18, "the gap's transition", y.cause(0, there + 10), 0);
        Due.same(18, "the fold's transition", y.cause(0, there + 130), 1);
        Due.same(22, "its gap", y.account(0, 0, 1), 30);
        Due.same(22, "its fold", y.account(0, 0, 2), 30);
    }

    private static void lengths() {
        ZoneCompiler x = Given.europe();
        Due.same(21, "an ordinary day", x.dayLength(0, 0), 1440);
        Due.same(21, "a short day", x.dayLength(0, Given.SPRING), 1380);
        Due.same(21, "a long day", x.dayLength(0, Given.AUTUMN), 1500);
        Due.same(21, "the last day", x.dayLength(0, 11687), 1440);
        Due.thrown(21, "dayLength(0, 11688)", Due.INDEX, () -> x.dayLength(0, 11688));
        Due.thrown(21, "dayLength(0, -1)", Due.INDEX, () -> x.dayLength(0, -1));
        Due.thrown(21, "dayLength(1, 0)", Due.INDEX, () -> x.dayLength(1, 0));

        int[] account = {527040, 60, 60, 527040};
        for (int what = 0; what <= 3; what++) {
            Due.same(22, "account(0, 0, " + what + ")", x.account(0, 0, what), account[what]);
        }
        Due.same(22, "the local times of 2031", x.account(0, 31, 3), 525600);
        Due.thrown(22, "account(1, 32, 0)", Due.INDEX, () -> x.account(1, 32, 0));
        Due.thrown(22, "account(0, 32, 0)", Due.ARGUMENT, () -> x.account(0, 32, 0));
        Due.thrown(22, "account(0, -1, 0)", Due.ARGUMENT, () -> x.account(0, -1, 0));
        Due.thrown(22, "account(0, 0, 4)", Due.ARGUMENT, () -> x.account(0, 0, 4));
        Due.thrown(22, "account(0, 0, -1)", Due.ARGUMENT, () -> x.account(0, 0, -1));

        // A whole day is left out; its midnight lies in the gap, so that the day begins at the transition.
        ZoneCompiler y = new ZoneCompiler();
        y.addZone(-660);
        y.changeBase(0, 364, 780);
        Due.same(21, "a day that is left out", y.dayLength(0, 364), 0);
        Due.same(21, "the day ahead of it", y.dayLength(0, 363), 1440);
        Due.same(22, "a year that lacks a day", y.account(0, 0, 0), 527040 - 1440);
        Due.same(22, "the gap in its year", y.account(0, 0, 1), 1440);
        y.changeBase(0, 730, 0);
        Due.same(21, "a day with a fold at its end", y.dayLength(0, 729), 1440 + 780);
        Due.same(21, "the day behind it", y.dayLength(0, 730), 1440);
        y.changeBase(0, 731, 300);
        y.changeBase(0, 1096, -300);
        Due.same(22, "the fold of a year that ends with a gap", y.account(0, 1, 2), 780);
        Due.same(22, "the gap behind New Year is none of the year", y.account(0, 1, 1), 0);
        Due.same(22, "it is one of the next year", y.account(0, 2, 1), 300);
        Due.same(22, "the fold ahead of New Year", y.account(0, 2, 2), 600);
        Due.same(22, "is none of the next year", y.account(0, 3, 2), 0);
    }

    private static void addMeeting() {
        ZoneCompiler x = Given.europe();
        int[][] wrong = {{-1, 0, 60, 0, 1}, {11688, 0, 60, 0, 1}, {0, -1, 60, 0, 1}, {0, 1440, 60, 0, 1},
            {0, 0, 0, 0, 1},
            {0, 0, 1441, 0, 1}, {0, 0, 60, -1, 1}, {0, 0, 60, 4, 1}, {0, 0, 60, 0, 0}, {0, 0, 60, 0, 41},
            {MOST, MOST, MOST, MOST, MOST}, {LEAST, LEAST, LEAST, LEAST, LEAST}};
        for (int[] at : wrong) {
            Due.thrown(23, "addMeeting", Due.ARGUMENT, () -> x.addMeeting(0, at[0], at[1], at[2], at[3], at[4]));
            Due.thrown(23, "addMeeting(1, ..)", Due.INDEX, () -> x.addMeeting(1, at[0], at[1], at[2], at[3], at[4]));
        }
        Due.same(23, "addMeeting", x.addMeeting(0, 7, 1439, 1440, 3, 40), 0);
        int[] due = {0, 7, 1439, 1440, 3, 0, 1, 0, 40, 40};
        for (int what = 0; what <= 9; what++) {
            Due.same(27, "meeting(0, " + what + ")", x.meeting(0, what), due[what]);
        }
        for (int i = 1; i < 10; i++) {
            Due.same(23, "addMeeting", x.addMeeting(0, 11687, 0, 1, 0, 2), i);
        }
        Due.same(27, "occurrences up to the last day", x.meeting(9, 8), 1);
        Due.thrown(23, "an eleventh meeting", Due.STATE, () -> x.addMeeting(0, 0, 0, 1, 0, 1));
        Due.thrown(23, "an eleventh meeting of no day", Due.ARGUMENT, () -> x.addMeeting(0, -1, 0, 1, 0, 1));
        Due.thrown(27, "meeting(10, 10)", Due.INDEX, () -> x.meeting(10, 10));
        Due.thrown(27, "meeting(-1, 0)", Due.INDEX, () -> x.meeting(-1, 0));
        Due.thrown(27, "meeting(0, 10)", Due.ARGUMENT, () -> x.meeting(0, 10));
        Due.thrown(27, "meeting(0, -1)", Due.ARGUMENT, () -> x.meeting(0, -1));
    }

    private static void days(ZoneCompiler x, int... due) {
        for (int i = 0; i < due.length; i++) {
            Due.same(24, "the day of occurrence " + i, x.occurrence(0, i, 0), due[i]);
        }
    }

    private static void recur() {
        ZoneCompiler x = Given.europe();
        // Day 5 is Thursday, January 6, 2000.
        x.addMeeting(0, 5, 600, 60, 0, 4);
        Due.same(24, "every 60 days", x.recur(0, 0, 60, 0), 4);
        days(x, 5, 65, 125, 185);
        Due.same(24, "Mondays, Thursdays and Sundays, every 8 weeks", x.recur(0, 1, 8, 1 + 8 + 64), 4);
        days(x, 5, 8, 2 + 56, 5 + 56);
        Due.same(24, "Mondays: not that of the first week", x.recur(0, 1, 1, 1), 4);
        days(x, 9, 16, 23, 30);
        Due.same(24, "every 24 months", x.recur(0, 2, 24, 0), 4);
        days(x, 5, 366 + 365 + 5, 1461 + 5, 1461 + 731 + 5);
        Due.same(24, "the first Thursday, every 3 months", x.recur(0, 3, 3, 0), 4);
        days(x, 5, 91 + 5, 182 + 5, 274 + 4);
        Due.same(27, "its kind", x.meeting(0, 5), 3);
        Due.same(27, "its step", x.meeting(0, 6), 3);
        x.recur(0, 1, 2, 127);
        Due.same(27, "its set", x.meeting(0, 7), 127);
        int[][] wrong = {{-1, 1, 0}, {4, 1, 0}, {0, 0, 0}, {0, 61, 0}, {1, 9, 1}, {1, 0, 1}, {1, 1, 0}, {1, 1, 128},
            {1, 1, -1}, {2, 25, 0}, {3, 25, 0}, {2, 0, 0}, {3, 0, 0}, {0, 1, 1}, {2, 1, 1}, {3, 1, 1},
            {LEAST, LEAST, LEAST}, {MOST, MOST, MOST}};
        for (int[] at : wrong) {
            Due.thrown(24, "recur", Due.ARGUMENT, () -> x.recur(0, at[0], at[1], at[2]));
            Due.thrown(24, "recur of no meeting", Due.INDEX, () -> x.recur(1, at[0], at[1], at[2]));
        }
        Due.same(24, "what is wrong changes nothing", x.meeting(0, 5), 1);

        // The 31st, and the 5th Saturday: months without are left out, and count for none.
        ZoneCompiler y = Given.europe();
        y.addMeeting(0, 30, 0, 1, 0, 3);
        y.recur(0, 2, 1, 0);
        days(y, 30, 90, 151);
        ZoneCompiler z = Given.europe();
        z.addMeeting(0, 28, 0, 1, 0, 3);
        z.recur(0, 3, 1, 0);
        days(z, 28, 119, 210);

        // At the end of the calendar, day 11687 being a Wednesday, there may be none at all.
        ZoneCompiler w = Given.europe();
        w.addMeeting(0, 11687, 0, 1, 0, 40);
        Due.same(24, "no Tuesday is left", w.recur(0, 1, 1, 2), 0);
        Due.same(24, "no Thursday is left", w.recur(0, 1, 1, 8), 0);
        Due.same(24, "one Wednesday is left", w.recur(0, 1, 1, 4), 1);
        Due.same(24, "one month is left", w.recur(0, 2, 1, 0), 1);
        Due.same(24, "one month is left", w.recur(0, 3, 24, 0), 1);
        w.cancel(0, 0);
        w.shift(0, 0, -5);
        w.recur(0, 3, 24, 0);
        Due.same(24, "no shift is left", w.occurrence(0, 0, 2), 0);
        Due.same(24, "none is cancelled any more", w.occurrence(0, 0, 3), 0);
    }

    private static void cancelAndShift() {
        ZoneCompiler x = Given.europe();
        x.addMeeting(0, 11600, 0, 60, 0, 40);
        Due.same(25, "cancel(0, 39)", x.cancel(0, 39), 1);
        Due.same(25, "it is cancelled", x.occurrence(0, 39, 3), 1);
        Due.same(25, "the others are not", x.meeting(0, 9), 39);
        Due.same(25, "cancel(0, 39) again", x.cancel(0, 39), 0);
        Due.same(25, "it takes place", x.occurrence(0, 39, 3), 0);
        Due.thrown(25, "cancel(0, 40)", Due.INDEX, () -> x.cancel(0, 40));
        Due.thrown(25, "cancel(0, -1)", Due.INDEX, () -> x.cancel(0, -1));
        Due.thrown(25, "cancel(1, 0)", Due.INDEX, () -> x.cancel(1, 0));
        Due.same(26, "shift(0, 0, 1440)", x.shift(0, 0, 1440), 0);
        Due.same(26, "shift(0, 0, -1440)", x.shift(0, 0, -1440), 1440);
        Due.same(26, "the shift", x.occurrence(0, 0, 2), -1440);
        Due.same(26, "the local time", x.occurrence(0, 0, 1), 1440 * 11599);
        Due.same(26, "the day stays", x.occurrence(0, 0, 0), 11600);
        Due.same(26, "the instant", x.occurrence(0, 0, 5), 1440 * 11599 - 120);
        Due.thrown(26, "shift(0, 40, 9999)", Due.INDEX, () -> x.shift(0, 40, 9999));
        Due.thrown(26, "shift(0, -1, 0)", Due.INDEX, () -> x.shift(0, -1, 0));
        Due.thrown(26, "shift(1, 0, 0)", Due.INDEX, () -> x.shift(1, 0, 0));
        Due.thrown(26, "shift(0, 0, 1441)", Due.ARGUMENT, () -> x.shift(0, 0, 1441));
        Due.thrown(26, "shift(0, 0, -1441)", Due.ARGUMENT, () -> x.shift(0, 0, -1441));
    }

    private static void occurrences() {
        ZoneCompiler x = Given.europe();
        // Mode 3 at 02:30: void in the gap of day 85, elsewhere not.
        x.addMeeting(0, Given.SPRING - 1, 150, 60, 3, 3);
        int[] ordinary = {Given.SPRING - 1, 1440 * (Given.SPRING - 1) + 150, 0, 0, 1, 1440 * (Given.SPRING - 1) + 90};
        for (int what = 0; what <= 5; what++) {
            Due.same(28, "occurrence(0, 0, " + what + ")", x.occurrence(0, 0, what), ordinary[what]);
        }
        Due.same(28, "void in a gap", x.occurrence(0, 1, 3), 2);
        Due.same(28, "no instants in a gap", x.occurrence(0, 1, 4), 0);
        Due.thrown(28, "no beginning in a gap", Due.ELEMENT, () -> x.occurrence(0, 1, 5));
        Due.same(27, "two take place", x.meeting(0, 9), 2);
        x.cancel(0, 1);
        Due.same(28, "void and cancelled", x.occurrence(0, 1, 3), 1);
        x.cancel(0, 0);
        Due.thrown(28, "no beginning if cancelled", Due.ELEMENT, () -> x.occurrence(0, 0, 5));
        Due.same(28, "its local time stays", x.occurrence(0, 0, 1), ordinary[1]);
        x.shift(0, 1, 30);
        x.cancel(0, 1);
        Due.same(28, "shifted out of the gap", x.occurrence(0, 1, 5), 1440 * Given.SPRING + 60);
        x.dropRule(0, 0);
        Due.same(28, "by other rules", x.occurrence(0, 1, 5), 1440 * Given.SPRING + 120);

        x.addMeeting(0, 0, 0, 60, 0, 1);
        x.shift(1, 0, -1);
        Due.same(28, "ahead of the calendar", x.occurrence(1, 0, 1), -1);
        Due.same(28, "it is void", x.occurrence(1, 0, 3), 2);
        Due.same(28, "it has no instants", x.occurrence(1, 0, 4), -1);
        x.addMeeting(0, 11687, 1439, 60, 0, 1);
        Due.same(28, "the last minute", x.occurrence(2, 0, 3), 0);
        x.shift(2, 0, 1);
        Due.same(28, "behind the calendar", x.occurrence(2, 0, 4), -1);
        Due.thrown(28, "occurrence(0, 3, 9)", Due.INDEX, () -> x.occurrence(0, 3, 9));
        Due.thrown(28, "occurrence(0, -1, 0)", Due.INDEX, () -> x.occurrence(0, -1, 0));
        Due.thrown(28, "occurrence(3, 0, 0)", Due.INDEX, () -> x.occurrence(3, 0, 0));
        Due.thrown(28, "occurrence(1, 0, 6)", Due.ARGUMENT, () -> x.occurrence(1, 0, 6));
        Due.thrown(28, "occurrence(1, 0, -1)", Due.ARGUMENT, () -> x.occurrence(1, 0, -1));
    }

    private static void nextClashAgenda() {
        ZoneCompiler x = new ZoneCompiler();
        x.addZone(0);
        x.addMeeting(0, 10, 600, 60, 0, 3);
        x.addMeeting(0, 11, 660, 60, 0, 3);
        int first = 14400 + 600;
        Due.same(29, "next from the least instant on", x.next(0, -2000), 0);
        Due.same(29, "next at its beginning", x.next(0, first), 0);
        Due.same(29, "next behind its beginning", x.next(0, first + 1), 1);
        Due.thrown(29, "next behind the last", Due.ELEMENT, () -> x.next(0, first + 2881));
        Due.thrown(29, "next(2, MOST)", Due.INDEX, () -> x.next(2, MOST));
        Due.thrown(29, "next(0, -2001)", Due.ARGUMENT, () -> x.next(0, -2001));
        Due.thrown(29, "next(0, 16832720)", Due.ARGUMENT, () -> x.next(0, 16832720));

        Due.same(30, "one ends as the other begins", x.clash(0, 1), -1);
        x.shift(0, 2, 1);
        Due.same(30, "a minute in common", x.clash(0, 1), 201);
        Due.same(30, "the other way round", x.clash(1, 0), 102);
        Due.same(30, "with itself none", x.clash(0, 0), -1);
        x.shift(0, 1, 1440);
        Due.same(30, "with itself", x.clash(0, 0), 102);
        Due.same(29, "like ones: one is a minute later", x.next(0, first + 1), 1);
        x.shift(0, 2, 0);
        Due.same(29, "like ones: the lowest", x.next(0, first + 1), 1);
        x.cancel(0, 1);
        Due.same(29, "a cancelled one is passed over", x.next(0, first + 1), 2);
        Due.same(30, "a cancelled one does not clash", x.clash(0, 0), -1);
        Due.thrown(30, "clash(0, 2)", Due.INDEX, () -> x.clash(0, 2));
        Due.thrown(30, "clash(-1, 0)", Due.INDEX, () -> x.clash(-1, 0));

        // Begins: meeting 0 at days 10 and 12, 10:00; meeting 1 at days 11, 12, 13, 11:00; then like ones.
        int[] due = {0, 100, 2, 101, 102};
        for (int i = 0; i < due.length; i++) {
            Due.same(31, "agenda(0, " + i + ")", x.agenda(0, i), due[i]);
        }
        Due.same(31, "agenda at the first", x.agenda(first, 0), 0);
        Due.same(31, "agenda behind the first", x.agenda(first + 1, 0), 100);
        x.shift(0, 2, 60);
        Due.same(31, "of like ones the meeting first", x.agenda(first + 1, 1), 2);
        Due.same(31, "then the other", x.agenda(first + 1, 2), 101);
        x.shift(1, 1, -1440);
        Due.same(31, "of like ones the number", x.agenda(first + 1, 0), 100);
        Due.same(31, "then the next number", x.agenda(first + 1, 1), 101);
        Due.thrown(31, "agenda(0, 5)", Due.ELEMENT, () -> x.agenda(0, 5));
        Due.thrown(31, "agenda(0, -1)", Due.ELEMENT, () -> x.agenda(0, -1));
        Due.thrown(31, "agenda(-2001, -1)", Due.ARGUMENT, () -> x.agenda(-2001, -1));
        Due.thrown(31, "agenda(16832720, 0)", Due.ARGUMENT, () -> x.agenda(16832720, 0));

        ZoneCompiler y = new ZoneCompiler();
        y.addZone(0);
        y.addMeeting(0, 0, 0, 1440, 0, 3);
        y.addMeeting(0, 0, 720, 1440, 0, 3);
        Due.same(30, "the lowest two", y.clash(0, 1), 0);
        y.cancel(0, 0);
        Due.same(30, "of several the lowest of the other", y.clash(0, 1), 100);
    }

    private static void driftAndFree() {
        ZoneCompiler x = Given.europe();
        x.addZone(0);
        x.addZone(-720);
        x.addMeeting(0, Given.SPRING - 2, 0, 60, 0, 5);
        Due.same(32, "in its own zone", x.drift(0, 0), 1);
        Due.same(32, "in a zone without savings", x.drift(0, 1), 2);
        x.shift(0, 0, 30);
        Due.same(32, "with one that is shifted", x.drift(0, 1), 3);
        x.cancel(0, 0);
        Due.same(32, "without it", x.drift(0, 1), 2);
        x.addMeeting(0, 0, 0, 60, 0, 2);
        Due.same(32, "a beginning below 0", x.drift(1, 2), 1);
        for (int i = 0; i < 2; i++) {
            x.cancel(1, i);
        }
        Due.same(32, "of none", x.drift(1, 0), 0);
        Due.thrown(32, "drift(2, 0)", Due.INDEX, () -> x.drift(2, 0));
        Due.thrown(32, "drift(0, 3)", Due.INDEX, () -> x.drift(0, 3));

        ZoneCompiler y = new ZoneCompiler();
        y.addZone(0);
        Due.same(33, "without meetings", y.free(-2000, -1999, 1), -2000);
        y.addMeeting(0, 1, 0, 60, 0, 1);
        y.addMeeting(0, 1, 90, 60, 0, 1);
        Due.same(33, "ahead of the first", y.free(1410, 3000, 30), 1410);
        Due.same(33, "no room ahead of the first", y.free(1411, 3000, 30), 1500);
        Due.same(33, "no room between them", y.free(1411, 3000, 31), 1590);
        Due.same(33, "in one", y.free(1445, 3000, 30), 1500);
        Due.same(33, "at the end of one", y.free(1500, 1530, 30), 1500);
        Due.same(33, "up to the end", y.free(1411, 1621, 31), 1590);
        Due.thrown(33, "not up to the end", Due.ELEMENT, () -> y.free(1411, 1620, 31));
        Due.thrown(33, "backwards", Due.ELEMENT, () -> y.free(100, 99, 1));
        Due.thrown(33, "no time at all", Due.ELEMENT, () -> y.free(100, 100, 1));
        Due.same(33, "a whole day", y.free(0, 9999, 1440), 0);
        Due.same(33, "a whole day behind all", y.free(1, 9999, 1440), 1590);
        Due.same(33, "behind all", y.free(16832718, 16832719, 1), 16832718);
        int[][] wrong = {{-2001, 0, 1}, {0, 16832720, 1}, {16832720, 0, 1}, {0, -2001, 1}, {0, 9, 0}, {0, 9, 1441}};
        for (int[] at : wrong) {
            Due.thrown(33, "free", Due.ARGUMENT, () -> y.free(at[0], at[1], at[2]));
        }
        y.cancel(0, 0);
        Due.same(33, "one is cancelled", y.free(1445, 3000, 30), 1445);
        // One that is long: it begins ahead of the least instant, and another one ends within it.
        y.addMeeting(0, 0, 1439, 1440, 0, 1);
        Due.same(33, "a long one", y.free(1439, 9999, 1), 2879);
    }

    private static void append() {
        ZoneCompiler x = new ZoneCompiler();
        Due.same(34, "four characters", x.append('z' << 24 | 'o' << 16 | 'n' << 8 | 'e'), 4);
        Due.same(34, "a 0 between them", x.append(':' << 24 | '5'), 6);
        Due.same(34, "nothing", x.append(0), 6);
        Due.same(34, "one", x.append(';' << 16), 7);
        Due.same(34, "they are in this order", x.run(), 1);
        Due.same(34, "the base", x.zone(0, 0), 5);
        for (int no : new int[] {32, 127, -1, 1, 'a' << 24 | 31, 200 << 8, LEAST}) {
            Due.thrown(34, "append(" + no + ")", Due.ARGUMENT, () -> x.append(no));
        }
        Due.same(34, "nothing of them is there", x.count(5), 0);
        for (int i = 0; i < 14; i++) {
            x.append(0x21217e7e);
        }
        x.append(0x212121);
        Due.same(34, "characters", x.count(5), 59);
        Due.thrown(34, "61 characters", Due.STATE, () -> x.append(0x2121));
        Due.thrown(34, "61 wrong characters", Due.ARGUMENT, () -> x.append(0x2120));
        Due.same(34, "60 characters", x.append(0x21000000), 60);
        Due.same(34, "60 characters and nothing", x.append(0), 60);
    }

    private static void run() {
        ZoneCompiler x = new ZoneCompiler();
        Given.put(x, "zone:-300;zone:-0;base:0,11687,-720;");
        Due.same(35, "three commands", x.run(), 3);
        Due.same(35, "zones", x.count(0), 2);
        Due.same(35, "a base", x.zone(0, 0), -300);
        Due.same(35, "-0", x.zone(1, 0), 0);
        Due.same(35, "a change", x.zone(0, 6), -720);
        Due.same(35, "the buffer is empty", x.count(5), 0);
        Due.same(35, "one change to undo", x.count(4), 1);
        Due.same(36, "no error", x.errorPosition(), -1);
        String[] dates = {"1", "31", "1x0", "4x6", "l0", "l6", "0>1", "6>31"};
        int[] numbers = {1, 31, 100, 406, 500, 506, 1010, 1316};
        String clocks = "wbi";
        for (int i = 0; i < dates.length; i++) {
            Given.put(x, "rule:1,2001,2031,12," + dates[i] + ",1439," + clocks.charAt(i % 3) + ",120;");
            Due.same(35, "a rule", x.run(), 1);
            int[] due = {1, 31, 12, numbers[i], 1439, i % 3, 120};
            for (int what = 0; what <= 6; what++) {
                Due.same(35, "rule(1, " + i + ", " + what + ")", x.rule(1, i, what), due[what]);
            }
        }
        Given.put(x, "drop:1,0;drop:1,0;");
        Due.same(35, "two rules are dropped", x.run(), 2);
        Due.same(35, "what remains", x.rule(1, 0, 3), 100);
        x.addMeeting(1, 0, 0, 1, 0, 3);
        Given.put(x, "cancel:0,2;cancel:0,1;cancel:0,2;");
        Due.same(35, "two are cancelled, one of them not", x.run(), 3);
        Due.same(35, "that one", x.occurrence(0, 2, 3), 0);
        Due.same(35, "the other", x.occurrence(0, 1, 3), 1);
        Given.put(x, "zone:0;zone:0;zone:0;zone:0;");
        Due.same(35, "up to 6 zones", x.run(), 4);
    }

    /** A text that is none, and the index of its first wrong character. */
    private static void wrongText(String text, int position) {
        ZoneCompiler x = new ZoneCompiler();
        Given.put(x, text);
        Due.thrown(35, "run of " + text, Due.ARGUMENT, x::run);
        Due.same(36, "the error position of " + text, x.errorPosition(), position);
        Due.same(35, "nothing is left of " + text, x.count(5), 0);
        Due.same(35, "nothing is done of " + text, x.count(0), 0);
        Due.same(35, "nothing to undo of " + text, x.count(4), 0);
    }

    private static void errors() {
        Object[][] texts = {{"", 0}, {"z", 0}, {"zon", 0}, {"zone", 4}, {"zone:", 5}, {"zone:6", 6}, {"zones:6;", 0},
            {"zone;", 4}, {"Zone:6;", 0}, {"zoneX", 4}, {":", 0}, {"zone:60;;", 8}, {"zone:60;z", 8}, {"zone:60;5", 8},
            {"zone:60;zonezone:", 8}, {"zone:--1;", 6}, {"zone:-", 6}, {"zone:00;", 6}, {"zone:-01;", 7},
            {"zone:123456;", 10}, {"zone:1,", 6}, {"zone:+1;", 5}, {"base:0,-1,0;", 7}, {"base:-0,1,0;", 5},
            {"base:0,1;", 8}, {"drop:0,0,", 8}, {"drop:0;", 6}, {"cancel:0,", 9}, {"cancel:,", 7},
            {"rule:0,2000,2001,1,5x0,0,w,0;", 20}, {"rule:0,2000,2001,1,0x", 20}, {"rule:0,2000,2001,1,1x7", 21},
            {"rule:0,2000,2001,1,1x", 21}, {"rule:0,2000,2001,1,l7", 20}, {"rule:0,2000,2001,1,l", 20},
            {"rule:0,2000,2001,1,7>", 20}, {"rule:0,2000,2001,1,6>,", 21}, {"rule:0,2000,2001,1,6>123", 23},
            {"rule:0,2000,2001,1,6>01", 22}, {"rule:0,2000,2001,1,12>", 21}, {"rule:0,2000,2001,1,12x", 21},
            {"rule:0,2000,2001,1,x", 19}, {"rule:0,2000,2001,1,-1", 19}, {"rule:0,2000,2001,1,100000", 24},
            {"rule:0,2000,2001,1,1,0,x", 23}, {"rule:0,2000,2001,1,1,0,ww", 24}, {"rule:0,2000,2001,1,1,0,0", 23},
            {"rule:0,2000,2001,1,1,0,", 23}, {"rule:0,2000,2001,1,1,0,w,0,", 26}, {"rule:0,2000,2001,1,1,-0", 21},
            {"zone:0;zone:0;zone:0;zone:0;zone:0;zone:0;zone:0;zone:0;zone", 60},
            {"zone:0;zone:0;zone:0;zone:0;zone:0;zone:0;zone:0;zone:0;zo", 56}};
        for (Object[] at : texts) {
            wrongText((String) at[0], (Integer) at[1]);
        }
    }

    /** A text behind "zone:0;" whose command can't be carried out. */
    private static void wrongCommand(String command) {
        ZoneCompiler x = new ZoneCompiler();
        Given.put(x, "zone:0;" + command + "zone:1;");
        Due.thrown(35, "run of " + command, Due.STATE, x::run);
        Due.same(36, "the error position of " + command, x.errorPosition(), 7);
        Due.same(35, "no zone by " + command, x.count(0), 0);
        Due.same(35, "nothing to undo by " + command, x.count(4), 0);
        Due.same(35, "nothing left of " + command, x.count(5), 0);
    }

    private static void commandErrors() {
        String[] commands = {"zone:841;", "zone:-721;", "base:1,0,0;", "base:0,11688,0;", "base:0,0,-999;", "drop:0,0;",
            "cancel:0,0;", "rule:1,2000,2001,1,1,0,w,0;", "rule:0,1999,2001,1,1,0,w,0;", "rule:0,2000,2032,1,1,0,w,0;",
            "rule:0,2000,2131,1,1,0,w,0;", "rule:0,2001,2000,1,1,0,w,0;", "rule:0,0,31,1,1,0,w,0;",
            "rule:0,2000,2001,13,1,0,w,0;",
            "rule:0,2000,2001,1,0,0,w,0;", "rule:0,2000,2001,1,32,0,w,0;", "rule:0,2000,2001,1,106,0,w,0;",
            "rule:0,2000,2001,1,500,0,w,0;", "rule:0,2000,2001,1,1010,0,w,0;", "rule:0,2000,2001,1,0>0,0,w,0;",
            "rule:0,2000,2001,1,6>32,0,w,0;", "rule:0,2000,2001,1,6>99,0,w,0;", "rule:0,2000,2001,1,1,1440,w,0;",
            "rule:0,2000,2001,1,1,0,w,121;", "rule:0,2000,2001,1,1,99999,i,0;", "rule:0,99999,99999,1,1,0,i,0;"};
        for (String command : commands) {
            wrongCommand(command);
        }
        // All that was there ahead of the run is there behind it, and can be undone.
        ZoneCompiler x = Given.europe();
        x.addMeeting(0, 0, 0, 60, 0, 2);
        int changes = x.count(4);
        Given.put(x, "drop:0,0;cancel:0,1;zone:5;cancel:0,2;");
        Due.thrown(35, "run", Due.STATE, x::run);
        Due.same(36, "errorPosition()", x.errorPosition(), 27);
        Due.same(35, "the rules", x.zone(0, 1), 2);
        Due.same(35, "the transitions", x.zone(0, 3), 64);
        Due.same(35, "the occurrences", x.meeting(0, 9), 2);
        Due.same(35, "the zones", x.count(0), 1);
        Due.same(35, "the changes", x.count(4), changes);
        Given.put(x, "zone:0;");
        x.run();
        Due.same(36, "errorPosition() behind a text without error", x.errorPosition(), -1);
        Given.put(x, "?");
        Due.thrown(35, "run", Due.ARGUMENT, x::run);
        x.undo();
        Due.same(36, "errorPosition() does not go back", x.errorPosition(), 0);
        // The eighth change can still be undone behind a run that failed.
        for (int i = 0; i < 8; i++) {
            x.cancel(0, 0);
        }
        Given.put(x, "drop:0,0;drop:0,9;");
        Due.thrown(35, "run", Due.STATE, x::run);
        Due.same(39, "8 changes can be undone", x.count(4), 8);
        for (int i = 7; i >= 0; i--) {
            Due.same(39, "undo()", x.undo(), i);
        }
        Due.same(39, "the rules are still there", x.zone(0, 1), 2);
    }

    private static void write() {
        ZoneCompiler x = new ZoneCompiler();
        x.addZone(0);
        int[] dates = {506, 100, 406, 1316, 1010, 7, 31, 500};
        String[] due = {"2000,2031,3,l6,120,w,60", "2000,2000,1,1x0,0,b,0", "2031,2031,12,4x6,1439,i,120",
            "2009,2010,10,6>31,60,w,5", "2010,2011,2,0>1,600,b,10", "2000,2031,1,7,1,i,1", "2000,2031,1,31,10,w,100",
            "2000,2031,1,l0,1000,b,99"};
        int[][] rules = {{31, 3, 1200, 60}, {0, 1, 1, 0}, {3131, 12, 14392, 120}, {910, 10, 600, 5},
            {1011, 2, 6001, 10},
            {31, 1, 12, 1}, {31, 1, 100, 100}, {31, 1, 10001, 99}};
        for (int i = 0; i < 8; i++) {
            x.addRule(0, rules[i][0], rules[i][1], dates[i], rules[i][2], rules[i][3]);
            int length = x.write(0, i);
            Due.same(37, "write(0, " + i + ")", length, due[i].length());
            String got = Given.written(x, length);
            if (!got.equals(due[i])) {
                Due.fault(37, "rule " + i + " is written as " + got + ", due is " + due[i]);
            }
        }
        int length = due[7].length();
        Due.same(38, "character(0)", x.character(0), '2');
        Due.thrown(38, "character(length)", Due.INDEX, () -> x.character(length));
        Due.thrown(38, "character(-1)", Due.INDEX, () -> x.character(-1));
        Due.thrown(37, "write(0, 8)", Due.INDEX, () -> x.write(0, 8));
        Due.thrown(37, "write(1, 0)", Due.INDEX, () -> x.write(1, 0));
        Due.same(38, "what was written stays", x.character(length - 1), '9');
        x.undo();
        Due.same(38, "it does not go back either", x.character(length - 1), '9');
        x.write(0, 1);
        Due.thrown(38, "a shorter text takes its place", Due.INDEX, () -> x.character(length - 1));
    }

    private static void undo() {
        ZoneCompiler x = Given.europe();
        Due.same(39, "three changes", x.count(4), 3);
        x.changeBase(0, 100, 0);
        x.addMeeting(0, 0, 0, 60, 0, 3);
        x.recur(0, 0, 2, 0);
        x.cancel(0, 1);
        x.shift(0, 1, 9);
        Due.same(39, "eight changes", x.count(4), 8);
        x.dropRule(0, 1);
        Due.same(39, "still eight", x.count(4), 8);
        Due.thrown(39, "what throws is no change", Due.INDEX, () -> x.dropRule(0, 1));
        Due.same(39, "undo dropRule", x.undo(), 7);
        Due.same(39, "the rules", x.zone(0, 1), 2);
        Due.same(39, "undo shift", x.undo(), 6);
        Due.same(39, "the shift", x.occurrence(0, 1, 2), 0);
        Due.same(39, "it is still cancelled", x.occurrence(0, 1, 3), 1);
        Due.same(39, "undo cancel", x.undo(), 5);
        Due.same(39, "it is not", x.occurrence(0, 1, 3), 0);
        Due.same(39, "undo recur", x.undo(), 4);
        Due.same(39, "the step", x.occurrence(0, 1, 0), 1);
        Due.same(39, "undo addMeeting", x.undo(), 3);
        Due.same(39, "the meetings", x.count(1), 0);
        Due.same(39, "undo changeBase", x.undo(), 2);
        Due.same(39, "the changes", x.zone(0, 2), 0);
        Due.same(39, "undo addRule", x.undo(), 1);
        Due.same(39, "the transitions", x.zone(0, 3), 1);
        Due.same(39, "undo addRule", x.undo(), 0);
        Due.thrown(39, "undo addZone: too long ago", Due.STATE, x::undo);
        Given.put(x, "zone:1;zone:2;");
        x.run();
        Due.same(39, "undo run", x.undo(), 0);
        Due.same(39, "both its zones are gone", x.count(0), 1);
        x.shift(x.addMeeting(0, 0, 0, 1, 0, 1), 0, 0);
        Due.same(39, "a shift by which nothing changes", x.undo(), 1);
        Given.put(x, "zo");
        x.undo();
        Due.same(39, "the buffer does not go back", x.count(5), 2);
    }

    private static void save() {
        ZoneCompiler x = Given.europe();
        Due.thrown(41, "restore()", Due.STATE, x::restore);
        Due.same(40, "save()", x.save(), 1);
        Due.same(40, "save is no change", x.count(4), 3);
        x.addZone(0);
        x.dropRule(0, 0);
        x.addMeeting(1, 0, 0, 1, 0, 1);
        Due.same(41, "restore()", x.restore(), 1);
        Due.same(41, "nothing can be undone", x.count(4), 0);
        Due.thrown(41, "undo()", Due.STATE, x::undo);
        Due.same(41, "the transitions", x.zone(0, 3), 64);
        Due.same(41, "the meetings", x.count(1), 0);
        x.addZone(5);
        x.undo();
        x.addZone(6);
        Due.same(41, "it stays saved", x.restore(), 1);
        x.addZone(7);
        x.addMeeting(1, 0, 0, 1, 0, 1);
        x.cancel(0, 0);
        Due.same(40, "save() in its place", x.save(), 2);
        x.undo();
        x.undo();
        x.undo();
        Due.same(40, "what was saved does not go back", x.restore(), 2);
        Due.same(41, "the base", x.zone(1, 0), 7);
        Due.same(41, "the occurrence", x.occurrence(0, 0, 3), 1);
    }

    private static void count() {
        ZoneCompiler x = Given.europe();
        x.addZone(0);
        x.addMeeting(0, Given.SPRING, 150, 60, 3, 3);
        x.addMeeting(1, 11687, 0, 60, 0, 40);
        x.addMeeting(1, 0, 0, 60, 0, 40);
        x.cancel(2, 39);
        x.append('?');
        int[] due = {2, 3, 44, 42, 8, 1};
        for (int what = 0; what <= 5; what++) {
            Due.same(42, "count(" + what + ")", x.count(what), due[what]);
        }
        Due.thrown(42, "count(6)", Due.ARGUMENT, () -> x.count(6));
        Due.thrown(42, "count(-1)", Due.ARGUMENT, () -> x.count(-1));
    }
}
