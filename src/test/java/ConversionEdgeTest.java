/** The sentences of the document about gaps, folds, modes, conversions, days and accounts: inside and outside. */
public final class ConversionEdgeTest {

    private static final String FOLDS = "Gaps and folds";
    private static final String MODES = "Modes";
    private static final String DAYS = "Days";
    private static final int LAST = 16830719;
    /** Where the gap and the fold of zone() begin; each is 60 minutes long. */
    private static final int GAP = 1440 * 19;
    private static final int FOLD = 1440 * 24 + 60;

    private ConversionEdgeTest() {
    }

    public static void main(String[] args) {
        howManyInstants();
        moreThanTwoInstants();
        firstTransitionOfAGap();
        transitionOfAGap();
        anotherTransitionNearby();
        transitionOfAFold();
        firstTransitionOfAFold();
        inNone();
        modeZero();
        modeOne();
        modeTwo();
        modeThree();
        outsideAllModesAreAlike();
        modesThatAreNot();
        theEndsOfTheCalendar();
        converted();
        beginningsOfDays();
        theDayBehindTheLastOne();
        lengthsOfZeroOrLess();
        accountOfLengths();
        accountOfGaps();
        accountOfFolds();
        accountOfLocalTimes();
        zonesThatAreNot();
        Due.end();
    }

    private static ZoneCompiler zone() {
        ZoneCompiler x = Given.zone(0);
        Given.january(x, 20, 0, 60);
        Given.january(x, 25, 60, 0);
        return x;
    }

    private static void many(ZoneCompiler x, int local, int due) {
        Due.same("instants(0, " + local + ")", x.instants(0, local), due);
        Due.same("instantsAgain(0, " + local + ")", x.instantsAgain(0, local), due);
    }

    private static void howManyInstants() {
        Due.sentence(FOLDS, "If it has none, it lies in a gap; if it has more than one, in a fold");
        ZoneCompiler x = zone();
        int[][] due = {{0, 1}, {GAP - 1, 1}, {GAP, 0}, {GAP + 59, 0}, {GAP + 60, 1}, {FOLD - 1, 1}, {FOLD, 2},
            {FOLD + 59, 2}, {FOLD + 60, 1}, {LAST, 1}};
        for (int[] at : due) {
            many(x, at[0], at[1]);
        }
        ZoneCompiler y = Given.zone(0);
        Given.january(y, 20, 0, 1);
        many(y, GAP - 1, 1);
        many(y, GAP, 0);
        many(y, GAP + 1, 1);
    }

    /** Base 240, from saving 120 to 60 at the beginning of January 21, and to 0 half an hour later. */
    private static ZoneCompiler threeTimes() {
        ZoneCompiler x = Given.zone(240);
        Given.january(x, 20, 0, 120);
        Given.january(x, 21, 0, 60);
        Given.january(x, 21, 30, 0);
        return x;
    }

    private static void moreThanTwoInstants() {
        Due.sentence("Promises 16 and 17", "the number, 0 in a gap, more than 1 in a fold");
        ZoneCompiler x = threeTimes();
        int at = 1440 * 20;
        int[][] due = {{269, 1}, {270, 2}, {299, 2}, {300, 3}, {329, 3}, {330, 2}, {359, 2}, {360, 1}};
        for (int[] pair : due) {
            many(x, at + pair[0], pair[1]);
        }
    }

    /** At 00:00 of January 20 saving 120, at 00:10 saving 0, at 00:20 saving 60: local times lack around 00:30. */
    private static ZoneCompiler gapOfTwo() {
        ZoneCompiler x = Given.zone(0);
        Given.january(x, 20, 0, 120);
        Given.january(x, 20, 10, 0);
        Given.january(x, 20, 20, 60);
        return x;
    }

    private static void firstTransitionOfAGap() {
        Due.sentence(FOLDS, "The transition of a gap is the first one with ..");
        ZoneCompiler x = gapOfTwo();
        many(x, GAP + 9, 0);
        many(x, GAP + 10, 1);
        many(x, GAP + 19, 1);
        many(x, GAP + 20, 0);
        many(x, GAP + 79, 0);
        many(x, GAP + 80, 1);
        Due.same("of two the first one", x.cause(0, GAP + 20), 0);
        Due.same("of two the first one", x.cause(0, GAP + 79), 0);
        Due.row("toInstant(0, .., mode)", mode -> x.toInstant(0, GAP + 30, mode), GAP + 30, GAP - 90, GAP);
    }

    private static void transitionOfAGap() {
        Due.sentence(FOLDS, "the instant plus the offset before it not greater .., plus the offset behind it greater");
        ZoneCompiler x = zone();
        Given.january(x, 27, 0, 30);
        int second = 1440 * 26;
        int[][] due = {{GAP - 1, -1}, {GAP, 0}, {GAP + 59, 0}, {GAP + 60, -1}, {second - 1, -1}, {second, 2},
            {second + 29, 2}, {second + 30, -1}};
        for (int[] at : due) {
            Due.same("cause(0, " + at[0] + ")", x.cause(0, at[0]), at[1]);
        }
    }

    private static void anotherTransitionNearby() {
        Due.sentence(FOLDS, "The transition of a gap: not another one shortly ahead of it or behind it");
        ZoneCompiler x = Given.zone(0);
        Given.january(x, 19, 1410, 10);
        Given.january(x, 20, 0, 60);
        Given.january(x, 20, 30, 100);
        int[][] due = {{GAP - 30, 0}, {GAP - 21, 0}, {GAP - 20, -1}, {GAP + 9, -1}, {GAP + 10, 1}, {GAP + 59, 1},
            {GAP + 60, -1}, {GAP + 89, -1}, {GAP + 90, 2}, {GAP + 129, 2}, {GAP + 130, -1}};
        for (int[] at : due) {
            Due.same("cause(0, " + at[0] + ")", x.cause(0, at[0]), at[1]);
        }
        Due.row("toInstant in the gap between", mode -> x.toInstant(0, GAP + 20, mode), GAP + 10, GAP - 40, GAP);
    }

    private static void transitionOfAFold() {
        Due.sentence(FOLDS, "whose instant is greater than the first instant .. and not greater than its last one");
        ZoneCompiler x = zone();
        int[][] due = {{FOLD - 1, -1}, {FOLD, 1}, {FOLD + 59, 1}, {FOLD + 60, -1}};
        for (int[] at : due) {
            Due.same("cause(0, " + at[0] + ")", x.cause(0, at[0]), at[1]);
        }
    }

    private static void firstTransitionOfAFold() {
        Due.sentence(FOLDS, "The transition of a fold is the first one ..");
        ZoneCompiler x = threeTimes();
        int at = 1440 * 20;
        int[][] due = {{269, -1}, {270, 1}, {300, 1}, {330, 1}, {359, 1}, {360, -1}};
        for (int[] pair : due) {
            Due.same("cause(0, " + (at + pair[0]) + ")", x.cause(0, at + pair[0]), pair[1]);
        }
        ZoneCompiler y = gapOfTwo();
        // 02:00 to 02:10 has an instant before 00:10 and one long behind 00:20: the way back to 0 is the first.
        many(y, GAP + 120, 2);
        Due.same("of a way back and one forth", y.cause(0, GAP + 120), 1);
        Due.same("its last minute", y.cause(0, GAP + 129), 1);
        Due.same("behind it", y.cause(0, GAP + 130), -1);
    }

    private static void inNone() {
        Due.sentence("Promise 18", "-1 if it lies in none");
        Due.same("without transitions", Given.zone(0).cause(0, 0), -1);
        Due.same("at the end", zone().cause(0, LAST), -1);
        Due.same("at the beginning", zone().cause(0, 0), -1);
    }

    private static void modeZero() {
        Due.sentence(MODES, "0, the first one .., and in a gap the local time less the offset before the transition");
        ZoneCompiler x = zone();
        int[][] due = {{GAP, GAP}, {GAP + 59, GAP + 59}, {FOLD, FOLD - 60}, {FOLD + 59, FOLD - 1}};
        for (int[] at : due) {
            Due.same("toInstant(0, " + at[0] + ", 0)", x.toInstant(0, at[0], 0), at[1]);
        }
        Due.same("of three", threeTimes().toInstant(0, 1440 * 20 + 300, 0), 1440 * 20 - 60);
    }

    private static void modeOne() {
        Due.sentence(MODES, "1, the last one, and in a gap the local time less the offset behind the transition");
        ZoneCompiler x = zone();
        int[][] due = {{GAP, GAP - 60}, {GAP + 59, GAP - 1}, {FOLD, FOLD}, {FOLD + 59, FOLD + 59}};
        for (int[] at : due) {
            Due.same("toInstant(0, " + at[0] + ", 1)", x.toInstant(0, at[0], 1), at[1]);
        }
        Due.same("of three", threeTimes().toInstant(0, 1440 * 20 + 300, 1), 1440 * 20 + 60);
    }

    private static void modeTwo() {
        Due.sentence(MODES, "2, the first one, and in a gap the instant of the transition");
        ZoneCompiler x = zone();
        int[][] due = {{GAP, GAP}, {GAP + 59, GAP}, {FOLD, FOLD - 60}, {FOLD + 59, FOLD - 1}};
        for (int[] at : due) {
            Due.same("toInstant(0, " + at[0] + ", 2)", x.toInstant(0, at[0], 2), at[1]);
        }
    }

    private static void modeThree() {
        Due.sentence(MODES, "3, the only one, and in a gap or a fold none");
        ZoneCompiler x = zone();
        Due.outside("toInstant(0, local, 3)", Due.UNSUPPORTED, local -> x.toInstant(0, local, 3),
                GAP, GAP + 59, FOLD, FOLD + 59);
        Due.outside("convert(0, local, 0, 3)", Due.UNSUPPORTED, local -> x.convert(0, local, 0, 3),
                GAP, GAP + 59, FOLD, FOLD + 59);
        Due.outside("of three", Due.UNSUPPORTED, local -> threeTimes().toInstant(0, local, 3), 1440 * 20 + 300);
        Due.inside("toInstant(0, local, 3)", local -> x.toInstant(0, local, 3), GAP - 1, GAP + 60, FOLD - 1, FOLD + 60);
        Due.inside("convert(0, local, 0, 3)", local -> x.convert(0, local, 0, 3),
                GAP - 1, GAP + 60, FOLD - 1, FOLD + 60);
    }

    private static void outsideAllModesAreAlike() {
        Due.sentence(MODES, "which instant is taken: the only one, in each mode");
        ZoneCompiler x = zone();
        int[][] due = {{0, 0}, {GAP - 1, GAP - 1}, {GAP + 60, GAP}, {FOLD - 1, FOLD - 61}, {FOLD + 60, FOLD + 60},
            {LAST, LAST}};
        for (int[] at : due) {
            Due.row("toInstant(0, " + at[0] + ", mode)", mode -> x.toInstant(0, at[0], mode), at[1], at[1], at[1],
                    at[1]);
        }
    }

    private static void modesThatAreNot() {
        Due.sentence("Promises 19 and 20", "Throws IllegalArgumentException if there is no such local time or mode");
        Due.range("toInstant(0, 0, mode)", Due.ARGUMENT, 0, 3, mode -> zone().toInstant(0, 0, mode));
        Due.range("convert(0, 0, 0, mode)", Due.ARGUMENT, 0, 3, mode -> zone().convert(0, 0, 0, mode));
        Due.range("toInstant(0, local, 1)", Due.ARGUMENT, 0, LAST, local -> zone().toInstant(0, local, 1));
        Due.range("convert(0, local, 0, 1)", Due.ARGUMENT, 0, LAST, local -> zone().convert(0, local, 0, 1));
    }

    private static void theEndsOfTheCalendar() {
        Due.sentence(FOLDS,
                "A local time has all those instants whose local time it is: also below 0 and behind the end");
        ZoneCompiler first = Given.zone(840);
        Due.same("the first local time", first.toInstant(0, 0, 3), -840);
        first.addRule(0, 0, 1, 1, 0, 120);
        many(first, 0, 0);
        many(first, 119, 0);
        many(first, 120, 1);
        Due.row("a gap at the first local time", mode -> first.toInstant(0, 0, mode), -840, -960, -840);
        ZoneCompiler last = Given.zone(-720);
        Due.same("the last local time", last.toInstant(0, LAST, 3), LAST + 720);
        last.addRule(0, 3131, 12, 31, 14390, 60);
        many(last, LAST - 1, 1);
        many(last, LAST, 0);
        Due.row("a gap at the last local time", mode -> last.toInstant(0, LAST, mode), LAST + 720, LAST + 660,
                LAST + 720);
        ZoneCompiler fold = Given.zone(0);
        fold.addRule(0, 3131, 12, 1, 2, 60);
        fold.addRule(0, 3131, 12, 31, 14382, 0);
        many(fold, LAST - 1, 2);
        many(fold, LAST, 2);
        Due.row("a fold at the last local time", mode -> fold.toInstant(0, LAST, mode), LAST - 60, LAST, LAST - 60);
    }

    private static void converted() {
        Due.sentence("Promise 20", "the other zone, possibly the same");
        ZoneCompiler x = zone();
        Due.row("out of a gap", mode -> x.convert(0, GAP + 10, 0, mode), GAP + 70, GAP - 50, GAP + 60);
        Due.row("in a fold", mode -> x.convert(0, FOLD + 10, 0, mode), FOLD + 10, FOLD + 10, FOLD + 10);
        Due.sentence("Promise 20", "the local time, whether it is one of the calendar or not");
        x.addZone(-720);
        x.addZone(840);
        Due.same("the first one", x.convert(2, 0, 1, 0), -1560);
        Due.same("the last one", x.convert(1, LAST, 2, 0), LAST + 1560);
        Due.same("ahead of a transition", x.convert(1, GAP - 721, 0, 3), GAP - 1);
        Due.same("at a transition", x.convert(1, GAP - 720, 0, 3), GAP + 60);
    }

    private static void beginningsOfDays() {
        Due.sentence(DAYS, "The beginning of a day in a zone is the instant that mode 2 tells for its minute 0");
        ZoneCompiler x = zone();
        Due.same("ahead of a day that begins in a gap", x.dayLength(0, 18), 1440);
        Due.same("a day that begins in a gap", x.dayLength(0, 19), 1380);
        Due.same("the day of a fold", x.dayLength(0, 24), 1500);
        Due.same("the day behind it", x.dayLength(0, 25), 1440);
        ZoneCompiler y = Given.zone(0);
        Given.january(y, 20, 1410, 60);
        Given.january(y, 25, 1410, 0);
        // The gap lies from 23:30 to 00:30, so that the next day begins at the transition; so does the fold.
        Due.same("a day that ends in a gap", y.dayLength(0, 19), 1410);
        Due.same("the next day", y.dayLength(0, 20), 1410);
        Due.same("a day that ends in a fold", y.dayLength(0, 24), 1440);
        Due.same("the next day", y.dayLength(0, 25), 1500);
    }

    private static void theDayBehindTheLastOne() {
        Due.sentence(DAYS, "also of a day 11688 behind the last one");
        Due.same("the last day", Given.zone(0).dayLength(0, 11687), 1440);
        Due.same("the last day of a zone far behind", Given.zone(-720).dayLength(0, 11687), 1440);
        ZoneCompiler gap = Given.zone(0);
        gap.addRule(0, 3131, 12, 31, 14102, 60);
        Due.same("a last day that ends in a gap", gap.dayLength(0, 11687), 1410);
        ZoneCompiler fold = Given.zone(0);
        fold.addRule(0, 3131, 12, 1, 2, 60);
        fold.addRule(0, 3131, 12, 31, 14102, 0);
        Due.same("a last day that ends in a fold", fold.dayLength(0, 11687), 1440);
        ZoneCompiler late = Given.zone(0);
        late.addRule(0, 3131, 12, 1, 2, 60);
        late.addRule(0, 3131, 12, 31, 13802, 0);
        Due.same("a last day that ends behind a fold", late.dayLength(0, 11687), 1500);
        Due.range("dayLength(0, day)", Due.INDEX, 0, 11687, day -> zone().dayLength(0, day));
    }

    private static void lengthsOfZeroOrLess() {
        Due.sentence("In doubt", "Lengths of days can be 0 or less");
        ZoneCompiler none = Given.zone(-660);
        none.changeBase(0, 364, 780);
        Due.row("around a day that is left out", i -> none.dayLength(0, 363 + i), 1440, 0, 1440);
        // Day 20 is passed over, day 21 begins for a while, and a day later the calendar goes back ahead of day 20.
        ZoneCompiler less = Given.zone(-720);
        less.changeBase(0, 19, 840);
        Given.january(less, 21, 450, 120);
        Given.january(less, 21, 500, 0);
        less.changeBase(0, 21, -720);
        Due.same("the transitions", less.zone(0, 3), 4);
        Due.same("a length less than 0", less.dayLength(0, 20), -240);
    }

    /** Gaps and folds of an hour around midnight at the ends of the years 0, 1 and 31. */
    private static ZoneCompiler newYears() {
        ZoneCompiler x = Given.zone(0);
        x.addRule(0, 0, 12, 31, 14102, 60);
        x.addRule(0, 101, 12, 31, 14102, 0);
        x.addRule(0, 3131, 12, 31, 14102, 60);
        return x;
    }

    private static void accountOfLengths() {
        Due.sentence("Promise 22", "0 the sum of the lengths of its days");
        ZoneCompiler x = newYears();
        int[][] due = {{0, 527040 - 30}, {1, 525600 - 30}, {2, 525600 + 60}, {3, 525600}, {4, 527040}, {30, 525600},
            {31, 525600 - 30}};
        for (int[] at : due) {
            Due.same("account(0, " + at[0] + ", 0)", x.account(0, at[0], 0), at[1]);
        }
        int sum = 0;
        for (int day = 366; day < 731; day++) {
            sum += x.dayLength(0, day);
        }
        Due.same("the lengths, added up", sum, 525600 - 30);
    }

    private static void accountOfGaps() {
        Due.sentence("Promise 22", "1 the number of its minutes that lie in gaps");
        ZoneCompiler x = newYears();
        int[][] due = {{0, 30}, {1, 30}, {2, 0}, {30, 0}, {31, 30}};
        for (int[] at : due) {
            Due.same("account(0, " + at[0] + ", 1)", x.account(0, at[0], 1), at[1]);
        }
        ZoneCompiler first = Given.zone(-30);
        first.addRule(0, 0, 1, 1, 2, 60);
        Due.same("a gap of which half lies ahead of the calendar", first.account(0, 0, 1), 30);
        Due.same("gaps of which one is filled in part", gapOfTwo().account(0, 0, 1), 70);
        Due.same("none", Given.zone(0).account(0, 0, 1), 0);
        ZoneCompiler late = Given.zone(60);
        late.changeBase(0, 10, 0);
        Given.january(late, 20, 0, 30);
        Due.same("a gap behind a fold", late.account(0, 0, 1), 30);
        ZoneCompiler behind = Given.zone(-300);
        behind.addRule(0, 0, 12, 31, 14100, 60);
        behind.addRule(0, 0, 12, 1, 0, 15);
        Due.same("gaps of a zone whose offset is below 0", behind.account(0, 0, 1), 15 + 30);
        Due.same("the rest of them in the next year", behind.account(0, 1, 1), 15);
    }

    private static void accountOfFolds() {
        Due.sentence("Promise 22", "2 the number of instants, less 1, of all its minutes that lie in folds, together");
        ZoneCompiler x = newYears();
        int[][] due = {{0, 0}, {1, 30}, {2, 30}, {3, 0}, {31, 0}};
        for (int[] at : due) {
            Due.same("account(0, " + at[0] + ", 2)", x.account(0, at[0], 2), at[1]);
        }
        Due.same("minutes of three instants count twice", threeTimes().account(0, 0, 2), 30 + 2 * 30 + 30);
        Due.same("a fold beside a gap", gapOfTwo().account(0, 0, 2), 10);
    }

    private static void accountOfLocalTimes() {
        Due.sentence("Promise 22", "3 the number of its local times");
        ZoneCompiler x = newYears();
        int[][] due = {{0, 527040}, {1, 525600}, {3, 525600}, {4, 527040}, {28, 527040}, {31, 525600}};
        for (int[] at : due) {
            Due.same("account(0, " + at[0] + ", 3)", x.account(0, at[0], 3), at[1]);
        }
        Due.sentence("Promise 22", "Throws IllegalArgumentException if there is no such year, or what is not 0 to 3");
        Due.range("account(0, 0, what)", Due.ARGUMENT, 0, 3, what -> zone().account(0, 0, what));
        Due.range("account(0, year, 1)", Due.ARGUMENT, 0, 31, year -> zone().account(0, year, 1));
    }

    private static void zonesThatAreNot() {
        Due.sentence("Promises 16 to 22", "Throws IndexOutOfBoundsException if there is no such zone");
        Due.range("instants(zone, 0)", Due.INDEX, 0, 0, zone -> zone().instants(zone, 0));
        Due.range("instantsAgain(zone, 0)", Due.INDEX, 0, 0, zone -> zone().instantsAgain(zone, 0));
        Due.range("cause(zone, 0)", Due.INDEX, 0, 0, zone -> zone().cause(zone, 0));
        Due.range("toInstant(zone, 0, 0)", Due.INDEX, 0, 0, zone -> zone().toInstant(zone, 0, 0));
        Due.range("convert(zone, 0, 0, 0)", Due.INDEX, 0, 0, zone -> zone().convert(zone, 0, 0, 0));
        Due.range("convert(0, 0, zone, 0)", Due.INDEX, 0, 0, zone -> zone().convert(0, 0, zone, 0));
        Due.range("dayLength(zone, 0)", Due.INDEX, 0, 0, zone -> zone().dayLength(zone, 0));
        Due.range("account(zone, 0, 0)", Due.INDEX, 0, 0, zone -> zone().account(zone, 0, 0));
    }
}
