/** The sentences of the document about meetings and their occurrences: each inside its boundary and outside. */
public final class MeetingEdgeTest {

    private static final String MEETINGS = "Meetings";
    private static final int LAST = 16830719;

    private MeetingEdgeTest() {
    }

    public static void main(String[] args) {
        tenMeetings();
        numbersOfAMeeting();
        aNewMeeting();
        kindsStepsAndSets();
        everySoManyDays();
        weeksBeginOnMondays();
        theFirstWeek();
        daysAheadOfTheFirstDay();
        daysOfTheMonth();
        monthsWithoutSuchADay();
        weekdaysOfTheMonth();
        fifthWeekdays();
        asManyAsTold();
        noneBehindTheLastDay();
        noOccurrenceAtAll();
        recurForgets();
        cancelled();
        shifted();
        occurrencesThatAreNot();
        outsideTheCalendar();
        noInstantByTheMode();
        takesPlace();
        statesOfOccurrences();
        instantsOfOccurrences();
        beginningsOfOccurrences();
        whats();
        meetingsThatAreNot();
        Due.end();
    }

    private static void days(String call, ZoneCompiler x, int... due) {
        Due.row(call + ": the day", i -> x.occurrence(0, i, 0), due);
    }

    private static void tenMeetings() {
        Due.sentence(MEETINGS, "at most 10 meetings, numbered from 0");
        ZoneCompiler x = Given.zone(0);
        Due.row("addMeeting", i -> x.addMeeting(0, i, 0, 1, 0, 1), 0, 1, 2, 3, 4, 5, 6, 7, 8, 9);
        Due.thrown("an eleventh meeting", Due.STATE, () -> x.addMeeting(0, 0, 0, 1, 0, 1));
        Due.same("count(1)", x.count(1), 10);
        Due.row("the day", i -> x.meeting(i, 1), 0, 1, 2, 3, 4, 5, 6, 7, 8, 9);
        x.undo();
        Due.same("a tenth meeting again", x.addMeeting(0, 77, 0, 1, 0, 1), 9);
    }

    private static void numbersOfAMeeting() {
        Due.sentence("Promise 23", "Throws IndexOutOfBoundsException if there is no such zone");
        Due.range("addMeeting(zone, ..)", Due.INDEX, 0, 0, zone -> Given.zone(0).addMeeting(zone, 0, 0, 1, 0, 1));
        Due.sentence("Promise 23", "Throws IllegalArgumentException if a number is out of range");
        Due.range("the day", Due.ARGUMENT, 0, 11687, day -> Given.zone(0).addMeeting(0, day, 0, 1, 0, 1));
        Due.range("the minute", Due.ARGUMENT, 0, 1439, minute -> Given.zone(0).addMeeting(0, 0, minute, 1, 0, 1));
        Due.range("the duration", Due.ARGUMENT, 1, 1440, minutes -> Given.zone(0).addMeeting(0, 0, 0, minutes, 0, 1));
        Due.range("the mode", Due.ARGUMENT, 0, 3, mode -> Given.zone(0).addMeeting(0, 0, 0, 1, mode, 1));
        Due.range("the number of occurrences", Due.ARGUMENT, 1, 40,
                many -> Given.zone(0).addMeeting(0, 0, 0, 1, 0, many));
    }

    private static void aNewMeeting() {
        Due.sentence(MEETINGS, "A new meeting recurs in kind 0 with the step 1");
        ZoneCompiler x = Given.zone(0);
        x.addZone(0);
        x.addMeeting(1, 9, 1439, 1440, 3, 3);
        Due.row("meeting(0, what)", what -> x.meeting(0, what), 1, 9, 1439, 1440, 3, 0, 1, 0, 3, 3);
        days("a new meeting", x, 9, 10, 11);
        // A meeting that comes in the place of one that was undone has nothing of it.
        x.recur(0, 1, 8, 127);
        x.cancel(0, 0);
        x.shift(0, 1, 5);
        for (int i = 0; i < 4; i++) {
            x.undo();
        }
        x.addMeeting(0, 9, 0, 1, 0, 2);
        Due.row("meeting(0, what)", what -> x.meeting(0, what), 0, 9, 0, 1, 0, 0, 1, 0, 2, 2);
        Due.same("no shift", x.occurrence(0, 1, 2), 0);
    }

    private static int recurred(int kind, int step, int set) {
        return Given.meeting(5, 40).recur(0, kind, step, set);
    }

    private static void kindsStepsAndSets() {
        Due.sentence("Promise 24", "Throws IllegalArgumentException if kind, step or set is out of range");
        Due.range("the kind", Due.ARGUMENT, 0, 3, kind -> recurred(kind, 1, kind == 1 ? 1 : 0));
        Due.range("the step of kind 0", Due.ARGUMENT, 1, 60, step -> recurred(0, step, 0));
        Due.range("the step of kind 1", Due.ARGUMENT, 1, 8, step -> recurred(1, step, 127));
        Due.range("the step of kind 2", Due.ARGUMENT, 1, 24, step -> recurred(2, step, 0));
        Due.range("the step of kind 3", Due.ARGUMENT, 1, 24, step -> recurred(3, step, 0));
        Due.range("the set of kind 1", Due.ARGUMENT, 1, 127, set -> recurred(1, 1, set));
        Due.range("the set of kind 0", Due.ARGUMENT, 0, 0, set -> recurred(0, 1, set));
        Due.range("the set of kind 2", Due.ARGUMENT, 0, 0, set -> recurred(2, 1, set));
        Due.range("the set of kind 3", Due.ARGUMENT, 0, 0, set -> recurred(3, 1, set));
    }

    private static void everySoManyDays() {
        Due.sentence(MEETINGS, "kind 0, every so many days, the step being from 1 to 60");
        ZoneCompiler x = Given.meeting(5, 3);
        x.recur(0, 0, 60, 0);
        days("every 60 days", x, 5, 65, 125);
        x.recur(0, 0, 1, 0);
        days("every day", x, 5, 6, 7);
    }

    /** Day 2 is a Monday, day 8 the Sunday of its week. */
    private static void weeksBeginOnMondays() {
        Due.sentence(MEETINGS, "bit w for the weekday w, where weeks begin on Mondays");
        ZoneCompiler monday = Given.meeting(2, 4);
        monday.recur(0, 1, 2, 1 + 64);
        days("Mondays and Sundays from a Monday on", monday, 2, 8, 16, 22);
        ZoneCompiler sunday = Given.meeting(8, 4);
        sunday.recur(0, 1, 2, 1 + 64);
        days("Mondays and Sundays from a Sunday on", sunday, 8, 16, 22, 30);
        for (int weekday = 0; weekday <= 6; weekday++) {
            ZoneCompiler x = Given.meeting(2, 2);
            x.recur(0, 1, 1, 1 << weekday);
            days("the weekday " + weekday, x, 2 + weekday, 9 + weekday);
        }
    }

    private static void theFirstWeek() {
        Due.sentence(MEETINGS, "the week of the first day is the first one");
        ZoneCompiler x = Given.meeting(4, 3);
        x.recur(0, 1, 8, 8);
        days("a later day of the first week", x, 5, 5 + 56, 5 + 112);
        x.recur(0, 1, 8, 4);
        days("the first day itself", x, 4, 4 + 56, 4 + 112);
        ZoneCompiler first = Given.meeting(0, 3);
        first.recur(0, 1, 2, 127);
        days("a week that begins ahead of the calendar", first, 0, 1, 9);
        ZoneCompiler second = Given.meeting(1, 3);
        second.recur(0, 1, 2, 127);
        days("its last day", second, 1, 9, 10);
    }

    private static void daysAheadOfTheFirstDay() {
        Due.sentence(MEETINGS, "days ahead of the first day do not count");
        ZoneCompiler x = Given.meeting(4, 3);
        x.recur(0, 1, 3, 2);
        days("the day ahead", x, 3 + 21, 3 + 42, 3 + 63);
        x.recur(0, 1, 3, 2 + 4 + 8);
        days("the days around", x, 4, 5, 3 + 21);
    }

    private static void daysOfTheMonth() {
        Due.sentence(MEETINGS, "kind 2, in every so many months, 1 to 24, on the day of the month of the first day");
        ZoneCompiler x = Given.meeting(349, 3);
        x.recur(0, 2, 1, 0);
        days("from December 15, 2000, on", x, 349, 380, 411);
        x.recur(0, 2, 24, 0);
        days("every 24 months", x, 349, 349 + 730, 349 + 1461);
        x.recur(0, 2, 13, 0);
        days("every 13 months", x, 349, 349 + 396, 349 + 396 + 396);
        ZoneCompiler first = Given.meeting(0, 3);
        first.recur(0, 2, 1, 0);
        days("each first of a month", first, 0, 31, 60);
    }

    private static void monthsWithoutSuchADay() {
        Due.sentence(MEETINGS, "In kind 2 and 3, months without such a day are left out");
        ZoneCompiler x = Given.meeting(30, 5);
        x.recur(0, 2, 1, 0);
        days("each 31st", x, 30, 90, 151, 212, 243);
        x.recur(0, 2, 2, 0);
        days("each second 31st: neither in September nor in November", x, 30, 90, 151, 212, 396);
        ZoneCompiler thirtieth = Given.meeting(29, 2);
        thirtieth.recur(0, 2, 1, 0);
        days("each 30th", thirtieth, 29, 89);
        ZoneCompiler leap = Given.meeting(59, 40);
        Due.same("each February 29", leap.recur(0, 2, 12, 0), 8);
        days("each February 29", leap, 59, 1461 + 59, 2922 + 59);
        Due.same("February 29 of every second year", leap.recur(0, 2, 24, 0), 8);
        ZoneCompiler other = Given.meeting(366 + 58, 3);
        other.recur(0, 2, 12, 0);
        days("each February 28", other, 366 + 58, 731 + 58, 1096 + 58);
    }

    private static void weekdaysOfTheMonth() {
        Due.sentence(MEETINGS, "kind 3, .. on the n-th weekday w of the month, if the first day is this one");
        int[][] due = {{0, 0, 35, 63}, {6, 6, 34, 62}, {7, 7, 42, 70}, {13, 13, 41, 69}, {14, 14, 49, 77},
            {20, 20, 48, 76}, {21, 21, 56, 84}, {27, 27, 55, 83}};
        for (int[] at : due) {
            ZoneCompiler x = Given.meeting(at[0], 3);
            x.recur(0, 3, 1, 0);
            days("from day " + at[0] + " on", x, at[1], at[2], at[3]);
        }
        ZoneCompiler y = Given.meeting(0, 3);
        y.recur(0, 3, 24, 0);
        days("the first Saturday, every 24 months", y, 0, 731 + 4, 1461 + 2);
        ZoneCompiler december = Given.meeting(335, 2);
        december.recur(0, 3, 1, 0);
        days("the first Friday, from December on", december, 335, 370);
    }

    private static void fifthWeekdays() {
        Due.sentence(MEETINGS, "months without such a day are left out: without a fifth weekday");
        ZoneCompiler x = Given.meeting(28, 4);
        x.recur(0, 3, 1, 0);
        days("the fifth Saturday", x, 28, 119, 210, 273);
        ZoneCompiler y = Given.meeting(30, 3);
        y.recur(0, 3, 1, 0);
        days("the fifth Monday", y, 30, 149, 212);
        ZoneCompiler leap = Given.meeting(59, 2);
        leap.recur(0, 3, 1, 0);
        days("the fifth Tuesday, from February 29 on", leap, 59, 150);
    }

    private static void asManyAsTold() {
        Due.sentence(MEETINGS, "numbered from 0 by their days, as many as told, the first ones");
        for (int many : new int[] {1, 2, 39, 40}) {
            ZoneCompiler x = Given.meeting(5, many);
            Due.same("a new meeting", x.meeting(0, 8), many);
            Due.same("kind 0", x.recur(0, 0, 60, 0), many);
            Due.same("kind 1", x.recur(0, 1, 1, 127), many);
            Due.same("its last day", x.occurrence(0, many - 1, 0), 4 + many);
            Due.same("kind 2", x.recur(0, 2, 1, 0), many);
            Due.same("kind 3", x.recur(0, 3, 1, 0), many);
        }
    }

    private static void noneBehindTheLastDay() {
        Due.sentence(MEETINGS, "those that would be behind day 11687 are none");
        int[][] due = {{11648, 0, 1, 40}, {11649, 0, 1, 39}, {11686, 0, 1, 2}, {11687, 0, 1, 1}, {11627, 0, 60, 2},
            {11628, 0, 60, 1}, {11680, 1, 1, 2}, {11681, 1, 1, 1}, {11631, 1, 8, 2}, {11657, 2, 1, 1}, {11656, 2, 1, 2},
            {11687, 2, 1, 1}, {11626, 2, 1, 2}, {11657, 3, 1, 1}, {11656, 3, 1, 1}, {11650, 3, 1, 2}, {11687, 3, 1, 1}};
        for (int[] at : due) {
            // In kind 1 each day is on a Wednesday like the last one, or the day behind it.
            int set = at[1] == 1 ? 1 << (at[0] + 5) % 7 : 0;
            Due.same("day " + at[0] + ", kind " + at[1] + ", step " + at[2],
                    Given.meeting(at[0], 40).recur(0, at[1], at[2], set), at[3]);
        }
        int september = new ZoneCompiler().day(28, 9, 15);
        Due.same("40 months are left", Given.meeting(september, 40).recur(0, 2, 1, 0), 40);
        Due.same("39 months are left", Given.meeting(september + 30, 40).recur(0, 2, 1, 0), 39);
        Due.same("39 third weekdays are left", Given.meeting(september + 30, 40).recur(0, 3, 1, 0), 39);
        ZoneCompiler x = Given.meeting(11685, 40);
        Due.same("of all weekdays three", x.recur(0, 1, 1, 127), 3);
        Due.same("the number of its occurrences", x.meeting(0, 8), 3);
        Due.same("of all meetings", x.count(2), 3);
    }

    private static void noOccurrenceAtAll() {
        Due.sentence("Promise 24", "the number of its occurrences then: also 0");
        ZoneCompiler x = Given.meeting(11687, 40);
        Due.same("only Thursdays, behind the last day", x.recur(0, 1, 1, 8), 0);
        Due.same("only Tuesdays, ahead of the first day", x.recur(0, 1, 1, 2), 0);
        Due.same("meeting(0, 8)", x.meeting(0, 8), 0);
        Due.same("meeting(0, 9)", x.meeting(0, 9), 0);
        Due.same("count(2)", x.count(2), 0);
        Due.thrown("cancel(0, 0)", Due.INDEX, () -> x.cancel(0, 0));
        Due.thrown("shift(0, 0, 0)", Due.INDEX, () -> x.shift(0, 0, 0));
        Due.thrown("occurrence(0, 0, 0)", Due.INDEX, () -> x.occurrence(0, 0, 0));
        Due.thrown("next(0, 0)", Due.ELEMENT, () -> x.next(0, 0));
        Due.thrown("agenda(0, 0)", Due.ELEMENT, () -> x.agenda(0, 0));
        Due.same("clash(0, 0)", x.clash(0, 0), -1);
        Due.same("drift(0, 0)", x.drift(0, 0), 0);
        Due.same("as many as told again", x.recur(0, 1, 1, 4), 1);
    }

    private static void recurForgets() {
        Due.sentence("Promise 24", "No occurrence of it is cancelled or has a shift then");
        ZoneCompiler x = Given.meeting(5, 40);
        x.cancel(0, 0);
        x.cancel(0, 39);
        x.shift(0, 0, 1);
        x.shift(0, 39, -1);
        Due.thrown("recur of no step", Due.ARGUMENT, () -> x.recur(0, 0, 61, 0));
        Due.same("behind a call that throws", x.meeting(0, 9), 38);
        Due.same("its shift", x.occurrence(0, 39, 2), -1);
        x.recur(0, 0, 1, 0);
        Due.same("all take place", x.meeting(0, 9), 40);
        Due.same("the first shift", x.occurrence(0, 0, 2), 0);
        Due.same("the last shift", x.occurrence(0, 39, 2), 0);
    }

    private static void cancelled() {
        Due.sentence("Promise 25", "Returns 1 if it is cancelled then, otherwise 0");
        ZoneCompiler x = Given.meeting(5, 40);
        for (int i : new int[] {0, 31, 32, 39}) {
            Due.row("cancel(0, " + i + ")", again -> x.cancel(0, i), 1, 0, 1);
            Due.same("its state", x.occurrence(0, i, 3), 1);
        }
        Due.same("the others take place", x.meeting(0, 9), 36);
        Due.same("the one behind", x.occurrence(0, 1, 3), 0);
    }

    private static void shifted() {
        Due.sentence("Promise 26", "its shift from now on, -1440 to 1440");
        Due.range("shift(0, 0, minutes)", Due.ARGUMENT, -1440, 1440,
                minutes -> Given.meeting(5, 3).shift(0, 0, minutes));
        Due.sentence("Promise 26", "Returns its previous shift");
        ZoneCompiler x = Given.meeting(5, 40);
        int[] shifts = {1440, -1440, 0, 7};
        Due.row("shift(0, 39, ..)", i -> x.shift(0, 39, shifts[i]), 0, 1440, -1440, 0);
        Due.same("the local time", x.occurrence(0, 39, 1), 1440 * 44 + 7);
        Due.same("the day, without the shift", x.occurrence(0, 39, 0), 44);
        Due.same("the shift of another one", x.occurrence(0, 38, 2), 0);
    }

    private static void occurrencesThatAreNot() {
        Due.sentence("Promises 25, 26 and 28", "Throws IndexOutOfBoundsException if there is no such .. occurrence");
        Due.range("cancel(0, i)", Due.INDEX, 0, 2, i -> Given.meeting(5, 3).cancel(0, i));
        Due.range("shift(0, i, 0)", Due.INDEX, 0, 2, i -> Given.meeting(5, 3).shift(0, i, 0));
        Due.range("occurrence(0, i, 0)", Due.INDEX, 0, 2, i -> Given.meeting(5, 3).occurrence(0, i, 0));
        Due.range("cancel(0, i) at the end", Due.INDEX, 0, 1, i -> Given.meeting(11686, 3).cancel(0, i));
        Due.range("shift(0, i, 0) at the end", Due.INDEX, 0, 1, i -> Given.meeting(11686, 3).shift(0, i, 0));
        Due.range("occurrence(0, i, 0) at the end", Due.INDEX, 0, 1, i -> Given.meeting(11686, 3).occurrence(0, i, 0));
        Due.range("cancel(0, i) of 40", Due.INDEX, 0, 39, i -> Given.meeting(5, 40).cancel(0, i));
    }

    /** A day, a minute, a shift: whether the local time is one of the calendar. */
    private static void place(int day, int minute, int minutes, boolean there) {
        ZoneCompiler x = Given.zone(0);
        x.addMeeting(0, day, minute, 60, 0, 1);
        x.shift(0, 0, minutes);
        String call = "day " + day + ", minute " + minute + ", shift " + minutes;
        Due.same(call + ": the state", x.occurrence(0, 0, 3), there ? 0 : 2);
        Due.same(call + ": the instants", x.occurrence(0, 0, 4), there ? 1 : -1);
        Due.same(call + ": the local time", x.occurrence(0, 0, 1), 1440 * day + minute + minutes);
        Due.same(call + ": how many take place", x.meeting(0, 9), there ? 1 : 0);
    }

    private static void outsideTheCalendar() {
        Due.sentence(MEETINGS, "If this is none of the calendar, .. the occurrence is void");
        place(0, 0, 0, true);
        place(0, 0, -1, false);
        place(0, 1439, -1439, true);
        place(0, 1439, -1440, false);
        place(1, 0, -1440, true);
        place(11687, 1439, 0, true);
        place(11687, 1439, 1, false);
        place(11687, 0, 1439, true);
        place(11687, 0, 1440, false);
        place(11686, 1439, 1440, true);
    }

    private static void noInstantByTheMode() {
        Due.sentence(MEETINGS, "if the mode tells no instant for it, the occurrence is void");
        int[][] due = {{Given.SPRING, 119, 0}, {Given.SPRING, 120, 2}, {Given.SPRING, 179, 2}, {Given.SPRING, 180, 0},
            {Given.AUTUMN, 119, 0}, {Given.AUTUMN, 120, 2}, {Given.AUTUMN, 179, 2}, {Given.AUTUMN, 180, 0}};
        for (int[] at : due) {
            for (int mode = 0; mode <= 3; mode++) {
                ZoneCompiler x = Given.europe();
                x.addMeeting(0, at[0], at[1], 60, mode, 1);
                Due.same("day " + at[0] + ", minute " + at[1] + ", mode " + mode, x.occurrence(0, 0, 3),
                        mode == 3 ? at[2] : 0);
            }
        }
    }

    private static void takesPlace() {
        Due.sentence(MEETINGS, "takes place: from the instant that the mode tells on, for its duration in .. instants");
        int[] due = {Given.SPRING * 1440 + 90, Given.SPRING * 1440 + 30, Given.SPRING * 1440 + 60};
        for (int mode = 0; mode <= 2; mode++) {
            ZoneCompiler x = Given.europe();
            x.addMeeting(0, Given.SPRING, 150, 100, mode, 1);
            Due.same("the beginning by the mode " + mode, x.occurrence(0, 0, 5), due[mode]);
            Due.same("the end by the mode " + mode, x.free(due[mode], 16832719, 1), due[mode] + 100);
            Due.same("the minute ahead of it", x.free(due[mode] - 1, 16832719, 1), due[mode] - 1);
        }
        ZoneCompiler y = Given.europe();
        y.addMeeting(0, Given.SPRING, 60, 120, 0, 1);
        Due.same("its duration across a gap", y.free(1440 * Given.SPRING, 16832719, 1), 1440 * Given.SPRING + 120);
    }

    private static void statesOfOccurrences() {
        Due.sentence("Promise 28", "0 if it takes place, 1 if it is cancelled, 2 if it is void and not cancelled");
        ZoneCompiler x = Given.meeting(0, 2);
        Due.row("both take place", i -> x.occurrence(0, i, 3), 0, 0);
        x.shift(0, 0, -1);
        Due.row("one is void", i -> x.occurrence(0, i, 3), 2, 0);
        x.cancel(0, 0);
        x.cancel(0, 1);
        Due.row("both are cancelled", i -> x.occurrence(0, i, 3), 1, 1);
        x.shift(0, 0, 0);
        x.cancel(0, 0);
        Due.row("one is not any more", i -> x.occurrence(0, i, 3), 0, 1);
    }

    private static void instantsOfOccurrences() {
        Due.sentence("Promise 28", "4 how many instants its local time has, -1 if it is none of the calendar");
        ZoneCompiler x = Given.europe();
        x.addMeeting(0, Given.SPRING, 150, 60, 0, 1);
        x.addMeeting(0, Given.AUTUMN, 150, 60, 0, 1);
        x.addMeeting(0, 11687, 1439, 60, 0, 1);
        x.addMeeting(0, 0, 0, 60, 0, 1);
        x.shift(3, 0, -1440);
        Due.row("in a gap, in a fold, elsewhere, nowhere", i -> x.occurrence(i, 0, 4), 0, 2, 1, -1);
        for (int i = 0; i < 4; i++) {
            x.cancel(i, 0);
        }
        Due.row("also if they are cancelled", i -> x.occurrence(i, 0, 4), 0, 2, 1, -1);
        x.shift(2, 0, 1);
        Due.same("a minute behind the calendar", x.occurrence(2, 0, 4), -1);
        Due.same("its local time", x.occurrence(2, 0, 1), LAST + 1);
    }

    private static void beginningsOfOccurrences() {
        Due.sentence("Promise 28", "Throws NoSuchElementException if what is 5 and it does not take place");
        ZoneCompiler x = Given.europe();
        x.addMeeting(0, 0, 0, 60, 0, 2);
        Due.same("a beginning below 0", x.occurrence(0, 0, 5), -60);
        x.shift(0, 0, -1);
        Due.thrown("a void one", Due.ELEMENT, () -> x.occurrence(0, 0, 5));
        x.cancel(0, 1);
        Due.thrown("a cancelled one", Due.ELEMENT, () -> x.occurrence(0, 1, 5));
        Due.row("its other numbers", what -> x.occurrence(0, 1, what), 1, 1440, 0, 1, 1);
        x.cancel(0, 1);
        Due.same("no more", x.occurrence(0, 1, 5), 1440 - 60);
        x.cancel(0, 1);
        x.shift(0, 1, 10);
        x.cancel(0, 1);
        Due.same("a shift while it was cancelled", x.occurrence(0, 1, 5), 1440 - 50);
    }

    private static void whats() {
        Due.sentence("Promise 27", "Throws IllegalArgumentException if what is not 0 to 9");
        Due.range("meeting(0, what)", Due.ARGUMENT, 0, 9, what -> Given.meeting(5, 3).meeting(0, what));
        Due.sentence("Promise 28", "Throws IllegalArgumentException if what is not 0 to 5");
        Due.range("occurrence(0, 0, what)", Due.ARGUMENT, 0, 5, what -> Given.meeting(5, 3).occurrence(0, 0, what));
        Due.sentence("Promise 27", "0 the zone; .. 9 how many of them take place");
        ZoneCompiler x = Given.meeting(11682, 9);
        x.recur(0, 1, 1, 31);
        x.cancel(0, 3);
        // Days 11682 (a Friday) and 11685 to 11687 (a Monday to a Wednesday).
        Due.row("meeting(0, what)", what -> x.meeting(0, what), 0, 11682, 0, 60, 0, 1, 1, 31, 4, 3);
        x.recur(0, 3, 2, 0);
        Due.row("meeting(0, what)", what -> x.meeting(0, what), 0, 11682, 0, 60, 0, 3, 2, 0, 1, 1);
    }

    private static void meetingsThatAreNot() {
        Due.sentence("Promises 24 to 32", "Throws IndexOutOfBoundsException if there is no such meeting");
        Due.range("recur(i, 0, 1, 0)", Due.INDEX, 0, 0, i -> Given.meeting(5, 3).recur(i, 0, 1, 0));
        Due.range("cancel(i, 0)", Due.INDEX, 0, 0, i -> Given.meeting(5, 3).cancel(i, 0));
        Due.range("shift(i, 0, 0)", Due.INDEX, 0, 0, i -> Given.meeting(5, 3).shift(i, 0, 0));
        Due.range("meeting(i, 0)", Due.INDEX, 0, 0, i -> Given.meeting(5, 3).meeting(i, 0));
        Due.range("occurrence(i, 0, 0)", Due.INDEX, 0, 0, i -> Given.meeting(5, 3).occurrence(i, 0, 0));
        Due.range("next(i, 0)", Due.INDEX, 0, 0, i -> Given.meeting(5, 3).next(i, 0));
        Due.range("clash(i, 0)", Due.INDEX, 0, 0, i -> Given.meeting(5, 3).clash(i, 0));
        Due.range("clash(0, i)", Due.INDEX, 0, 0, i -> Given.meeting(5, 3).clash(0, i));
        Due.range("drift(i, 0)", Due.INDEX, 0, 0, i -> Given.meeting(5, 3).drift(i, 0));
        Due.range("drift(0, zone)", Due.INDEX, 0, 0, zone -> Given.meeting(5, 3).drift(0, zone));
    }
}
