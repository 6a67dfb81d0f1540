/** The sentences of the document about compiling, transitions and void events: inside their boundaries and outside. */
public final class CompileEdgeTest {

    private static final String COMPILING = "Compiling";
    /** The minute 0 of January 10, 2000. */
    private static final int TENTH = 1440 * 9;

    private CompileEdgeTest() {
    }

    public static void main(String[] args) {
        eventsOfRules();
        eventsOfChanges();
        timesOfEvents();
        orderByTimes();
        orderByTimesNotInstants();
        changesAheadOfRules();
        likeOnesByNumbers();
        theBeginning();
        instantsByTheClocks();
        voidUpToTheLatestTransition();
        noneIsVoidWithoutTransition();
        onlyTransitionsMakeVoid();
        theLatestTransition();
        voidEventsDoNothing();
        sameOffsetIsNoTransition();
        numbersOfTransitions();
        inForceFromItsInstantOn();
        mostEvents();
        transitionsThatAreNot();
        voidEventsThatAreNot();
        whats();
        earliestAndLatest();
        secondWayByYears();
        eachEventOnce();
        compiledAnew();
        offsetsOfNoZone();
        Due.end();
    }

    private static void eventsOfRules() {
        Due.sentence(COMPILING, "one for each of their years in which there is one");
        int[][] due = {{0, 1, 31, 1}, {31, 1, 31, 32}, {3131, 12, 31, 1}, {31, 2, 29, 8}, {103, 2, 29, 0},
            {104, 2, 29, 1},
            {408, 2, 29, 2}, {31, 2, 30, 0}, {31, 4, 31, 0}};
        for (int[] at : due) {
            ZoneCompiler x = Given.zone(0);
            x.addRule(0, at[0], at[1], at[2], 0, 0);
            Due.same("the events of the years " + at[0] + ", date " + at[2] + "." + at[1], x.zone(0, 5), at[3]);
        }
    }

    private static void eventsOfChanges() {
        Due.sentence(COMPILING, "its changes, on their days at the minute 0 by the clock 0");
        ZoneCompiler x = Given.zone(60);
        Given.january(x, 5, 0, 30);
        x.changeBase(0, 9, 0);
        Due.same("the instant", x.transition(0, 1, 0), TENTH - 60 - 30);
        ZoneCompiler y = Given.zone(0);
        y.changeBase(0, 11687, 1);
        Due.same("the instant on the last day", y.transition(0, 0, 0), 1440 * 11687);
        Due.same("the events", y.zone(0, 5), 1);
    }

    private static void timesOfEvents() {
        Due.sentence(COMPILING, "The time of an event is 1440 times its day plus its minute");
        ZoneCompiler x = Given.zone(0);
        Given.january(x, 10, 1439, 60);
        x.addRule(0, 0, 1, 11, 0, 30);
        x.changeBase(0, 10, 5);
        Due.row("the times", i -> x.voidEvent(0, i, 0), TENTH + 1440, TENTH + 1440);
        Due.row("the events", i -> x.voidEvent(0, i, 2), 100, 1);
        ZoneCompiler y = Given.zone(100);
        y.addRule(0, 0, 1, 10, 14392, 60);
        y.addRule(0, 0, 1, 10, 14390, 30);
        Due.same("the last minute of the day", y.voidEvent(0, 0, 0), TENTH + 1439);
    }

    private static void orderByTimes() {
        Due.sentence(COMPILING, "The events are taken in ascending order of their times");
        ZoneCompiler x = Given.zone(0);
        Given.january(x, 10, 1, 10);
        Given.january(x, 10, 0, 20);
        Given.january(x, 9, 1439, 30);
        x.addRule(0, 101, 1, 1, 2, 40);
        Due.row("the rule", i -> x.transition(0, i, 4), 2, 1, 0, 3);
        Due.row("the instant", i -> x.transition(0, i, 0), TENTH - 1, TENTH, TENTH + 1, 1440 * 366);
    }

    private static void orderByTimesNotInstants() {
        Due.sentence(COMPILING, "in ascending order of their times: not of their instants");
        ZoneCompiler x = Given.zone(60);
        Given.january(x, 10, 599, 10);
        x.addRule(0, 0, 1, 10, 6000, 20);
        Due.same("the earlier time, though the later instant", x.transition(0, 0, 4), 0);
        Due.same("the later time is void", x.voidEvent(0, 0, 2), 1);
        Due.same("its instant", x.voidEvent(0, 0, 1), TENTH + 600 - 70);
    }

    private static void changesAheadOfRules() {
        Due.sentence(COMPILING, "of like ones changes ahead of rules");
        ZoneCompiler x = Given.zone(0);
        Given.january(x, 10, 0, 10);
        x.changeBase(0, 9, 5);
        Due.same("the change", x.transition(0, 0, 4), 100);
        Due.same("the rule is void", x.voidEvent(0, 0, 2), 0);
        ZoneCompiler y = Given.zone(0);
        y.addRule(0, 0, 1, 9, 14392, 10);
        y.changeBase(0, 9, -5);
        Due.row("a rule that is a minute earlier", i -> y.transition(0, i, 4), 0);
        Due.row("the change is void", i -> y.voidEvent(0, i, 2), 100);
    }

    private static void likeOnesByNumbers() {
        Due.sentence(COMPILING, "of like ones .. each of both by their numbers");
        ZoneCompiler x = Given.zone(0);
        x.changeBase(0, 9, -10);
        x.changeBase(0, 9, -30);
        x.changeBase(0, 9, -20);
        Due.row("changes", i -> x.transition(0, i, 4), 100, 101, 102);
        Due.row("their instants", i -> x.transition(0, i, 0) - TENTH, 0, 10, 30);
        ZoneCompiler y = Given.zone(0);
        Given.january(y, 10, 0, 0);
        Given.january(y, 10, 0, 20);
        Given.january(y, 10, 0, 10);
        Due.same("the first rule by which something changes", y.transition(0, 0, 4), 1);
        Due.same("the next one is void", y.voidEvent(0, 0, 2), 2);
    }

    private static void theBeginning() {
        Due.sentence(COMPILING, "At the beginning, the base is the first base, and the saving is 0");
        for (int clock = 0; clock <= 2; clock++) {
            ZoneCompiler x = Given.zone(100);
            x.addRule(0, 0, 1, 10, clock, 60);
            Due.same("the instant by the clock " + clock, x.transition(0, 0, 0), TENTH - (clock == 2 ? 0 : 100));
            Due.same("the offset before it", x.transition(0, 0, 1), 100);
        }
        ZoneCompiler y = Given.zone(100);
        y.addRule(0, 31, 1, 10, 0, 0);
        y.changeBase(0, 500, 100);
        Due.same("the saving 0 and the first base change nothing", y.zone(0, 3), 0);
    }

    private static void instantsByTheClocks() {
        Due.sentence(COMPILING, "less the base in force if the clock is 1, .. the base and the saving .. if .. 0");
        int[] due = {-130, -100, 0};
        for (int clock = 0; clock <= 2; clock++) {
            ZoneCompiler x = Given.zone(100);
            Given.january(x, 5, 0, 30);
            x.addRule(0, 0, 1, 10, clock, 60);
            Due.same("the instant by the clock " + clock, x.transition(0, 1, 0), TENTH + due[clock]);
        }
        ZoneCompiler y = Given.zone(100);
        y.changeBase(0, 4, -50);
        y.addRule(0, 0, 1, 10, 1, 60);
        Due.same("a base below 0 that is in force", y.transition(0, 1, 0), TENTH + 50);
    }

    /** January 10: at 10:00 of the instants saving 60, then by the wall another event, whose instant is 60 less. */
    private static ZoneCompiler twoEvents(int minute) {
        ZoneCompiler x = Given.zone(0);
        Given.january(x, 10, 600, 60);
        x.addRule(0, 0, 1, 10, 10 * minute, 20);
        return x;
    }

    private static void voidUpToTheLatestTransition() {
        Due.sentence(COMPILING, "If .. its instant .. is not less than the instant of the event, the event is void");
        ZoneCompiler before = twoEvents(659);
        Due.same("a minute ahead of the transition", before.voidEvent(0, 0, 1), TENTH + 599);
        ZoneCompiler same = twoEvents(660);
        Due.same("at the transition", same.voidEvent(0, 0, 1), TENTH + 600);
        Due.same("the transitions", same.zone(0, 3), 1);
        ZoneCompiler behind = twoEvents(661);
        Due.same("a minute behind it there is no void event", behind.zone(0, 4), 0);
        Due.same("but a transition", behind.transition(0, 1, 0), TENTH + 601);
    }

    private static void noneIsVoidWithoutTransition() {
        Due.sentence(COMPILING, "If there is a transition and ..");
        ZoneCompiler x = Given.zone(840);
        x.changeBase(0, 0, 839);
        Due.same("the instant of a first event below 0", x.transition(0, 0, 0), -840);
        ZoneCompiler y = Given.zone(500);
        // The first one changes nothing at a later instant than the second one.
        Given.january(y, 10, 600, 0);
        y.addRule(0, 0, 1, 10, 6010, 60);
        Due.same("behind an event by which nothing changes", y.transition(0, 0, 0), TENTH + 101);
        Due.same("the void events", y.zone(0, 4), 0);
    }

    private static void onlyTransitionsMakeVoid() {
        Due.sentence(COMPILING, "a transition and its instant: not that of an event by which nothing changes");
        ZoneCompiler x = Given.zone(60);
        Given.january(x, 10, 100, 30);
        Given.january(x, 10, 200, 30);
        x.addRule(0, 0, 1, 10, 2010, 0);
        Due.same("between a transition and such an event", x.transition(0, 1, 0), TENTH + 111);
        Due.same("the void events", x.zone(0, 4), 0);
    }

    private static void theLatestTransition() {
        Due.sentence(COMPILING, "that of the latest one: not of a void event behind it");
        ZoneCompiler x = twoEvents(650);
        x.addRule(0, 0, 1, 10, 6550, 10);
        x.addRule(0, 0, 1, 10, 6610, 0);
        Due.row("the void events", i -> x.voidEvent(0, i, 1) - TENTH, 590, 595);
        Due.row("the transitions", i -> x.transition(0, i, 0) - TENTH, 600, 601);
        ZoneCompiler y = Given.zone(0);
        Given.january(y, 9, 0, 60);
        Given.january(y, 10, 600, 120);
        y.addRule(0, 0, 1, 10, 7200, 0);
        Due.same("of two transitions it is the second one", y.zone(0, 4), 1);
    }

    private static void voidEventsDoNothing() {
        Due.sentence(COMPILING, "the event is void. Otherwise ..");
        ZoneCompiler x = twoEvents(660);
        x.changeBase(0, 20, 5);
        Due.same("the saving in force", x.transition(0, 1, 3), 60);
        Due.same("the offset before the next one", x.transition(0, 1, 1), 60);
        ZoneCompiler y = Given.zone(0);
        y.changeBase(0, 9, 100);
        y.changeBase(0, 9, -100);
        Due.same("the base stays in force", y.offset(0, TENTH), 100);
        Due.same("also to the end", y.zone(0, 6), 100);
        Due.same("and is none of the offsets", y.zone(0, 8), 0);
    }

    private static void sameOffsetIsNoTransition() {
        Due.sentence(COMPILING, "if the offset is another one than before by that, this is a transition");
        ZoneCompiler x = Given.zone(10);
        Given.january(x, 5, 0, 30);
        Given.january(x, 6, 0, 30);
        x.changeBase(0, 9, 10);
        Due.same("the same saving and the same base: transitions", x.zone(0, 3), 1);
        Due.same("void events", x.zone(0, 4), 0);
        Due.same("events", x.zone(0, 5), 3);
        Given.january(x, 11, 0, 31);
        x.changeBase(0, 15, 9);
        Due.row("a minute more, a minute less", i -> x.transition(0, i, 2), 40, 41, 40);
    }

    private static void numbersOfTransitions() {
        Due.sentence(COMPILING, "Transitions and void events are numbered from 0 in the order in which they come");
        ZoneCompiler x = Given.zone(0);
        x.addRule(0, 2, 1, 10, 6002, 60);
        x.addRule(0, 2, 1, 10, 6600, 0);
        x.addRule(0, 2, 2, 10, 2, 0);
        Due.row("transitions", i -> x.transition(0, i, 4), 0, 2, 0, 2, 0, 2);
        Due.row("void events", i -> x.voidEvent(0, i, 0) / 1440, 9, 366 + 9, 731 + 9);
    }

    private static void inForceFromItsInstantOn() {
        Due.sentence(COMPILING, "An offset is in force from the instant of its transition on");
        ZoneCompiler x = twoEvents(661);
        int[][] due = {{-2000, 0}, {TENTH + 599, 0}, {TENTH + 600, 60}, {TENTH + 601, 20}, {16832719, 20}};
        for (int[] at : due) {
            Due.same("offset(0, " + at[0] + ")", x.offset(0, at[0]), at[1]);
            Due.same("offsetAgain(0, " + at[0] + ")", x.offsetAgain(0, at[0]), at[1]);
            Due.same("toLocal(0, " + at[0] + ")", x.toLocal(0, at[0]), at[0] + at[1]);
        }
    }

    private static void mostEvents() {
        Due.sentence(COMPILING,
                "The events of a zone are those of its rules .. and its changes: as many as there can be");
        ZoneCompiler x = Given.zone(0);
        for (int i = 0; i < 8; i++) {
            x.addRule(0, 31, i + 1, 1, 2, i % 2 == 0 ? 60 : 0);
        }
        for (int i = 0; i < 4; i++) {
            x.changeBase(0, 366 * i + 300, 10 * (i + 1));
        }
        Due.same("transitions", x.zone(0, 3), 260);
        Due.same("events", x.zone(0, 5), 260);
        Due.same("the last one", x.transition(0, 259, 4), 7);
        ZoneCompiler y = Given.zone(0);
        for (int i = 0; i < 8; i++) {
            y.addRule(0, 31, 1, 10, 2, 10 * (i + 1));
        }
        // Each second year the first rule changes nothing, so that the second one is the transition.
        Due.same("void events", y.zone(0, 4), 7 * 16 + 6 * 16);
        Due.same("the last of them", y.voidEvent(0, 207, 2), 7);
    }

    private static void transitionsThatAreNot() {
        Due.sentence("Promise 11", "Throws NoSuchElementException if there is no such transition");
        Due.range("transition(0, i, 0)", Due.ELEMENT, 0, 63, i -> Given.europe().transition(0, i, 0));
        Due.thrown("without any", Due.ELEMENT, () -> Given.zone(0).transition(0, 0, 0));
        Due.sentence("Promise 11", "Throws IndexOutOfBoundsException if there is no such zone");
        Due.range("transition(zone, 0, 0)", Due.INDEX, 0, 0, zone -> Given.europe().transition(zone, 0, 0));
    }

    private static void voidEventsThatAreNot() {
        Due.sentence("Promise 12", "Throws NoSuchElementException if there is no such void event");
        Due.range("voidEvent(0, i, 0)", Due.ELEMENT, 0, 0, i -> twoEvents(660).voidEvent(0, i, 0));
        Due.thrown("without any", Due.ELEMENT, () -> Given.zone(0).voidEvent(0, 0, 0));
        Due.sentence("Promise 12", "Throws IndexOutOfBoundsException if there is no such zone");
        Due.range("voidEvent(zone, 0, 0)", Due.INDEX, 0, 0, zone -> twoEvents(660).voidEvent(zone, 0, 0));
    }

    private static void whats() {
        Due.sentence("Promise 11", "Throws IllegalArgumentException if what is not 0 to 4");
        Due.range("transition(0, 0, what)", Due.ARGUMENT, 0, 4, what -> Given.europe().transition(0, 0, what));
        Due.sentence("Promise 11", "0 the instant; .. 4 the rule, or 100 plus the change, of its event");
        ZoneCompiler x = Given.zone(10);
        x.changeBase(0, 1, 5);
        x.changeBase(0, 20, 7);
        Given.january(x, 10, 0, 30);
        Due.row("transition(0, 1, what)", what -> x.transition(0, 1, what), TENTH, 5, 35, 30, 0);
        Due.row("transition(0, 2, what)", what -> x.transition(0, 2, what), 1440 * 20 - 35, 35, 37, 30, 101);
        Due.sentence("Promise 12", "Throws IllegalArgumentException if what is not 0 to 2");
        Due.range("voidEvent(0, 0, what)", Due.ARGUMENT, 0, 2, what -> twoEvents(660).voidEvent(0, 0, what));
        Due.sentence("Promise 12", "0 its time; 1 its instant; 2 the rule, or 100 plus the change");
        Due.row("voidEvent(0, 0, what)", what -> twoEvents(659).voidEvent(0, 0, what), TENTH + 659, TENTH + 599, 1);
    }

    private static void earliestAndLatest() {
        Due.sentence("Promises 13 to 15", "the offset of a zone at an instant: at the ends of the calendar");
        ZoneCompiler x = Given.zone(840);
        x.changeBase(0, 0, -720);
        x.addRule(0, 3131, 12, 31, 14390, 1);
        int last = 16830719 + 720;
        int[][] due = {{-2000, 840}, {-841, 840}, {-840, -720}, {0, -720}, {last - 1, -720}, {last, -719},
            {16832719, -719}};
        for (int[] at : due) {
            Due.same("offset(0, " + at[0] + ")", x.offset(0, at[0]), at[1]);
            Due.same("offsetAgain(0, " + at[0] + ")", x.offsetAgain(0, at[0]), at[1]);
        }
        Due.sentence("Promise 15", "the local time of an instant, whether it is one of the calendar or not");
        Due.same("ahead of the calendar", Given.zone(-720).toLocal(0, -2000), -2720);
        Due.same("behind it", Given.zone(840).toLocal(0, 16832719), 16833559);
    }

    private static void secondWayByYears() {
        Due.sentence("Promise 14", "event by event from the beginning on, year by year");
        ZoneCompiler x = Given.zone(0);
        x.changeBase(0, 366, 30);
        x.changeBase(0, 365, 60);
        x.changeBase(0, 11687, 90);
        x.changeBase(0, 0, -90);
        x.addRule(0, 31, 12, 31, 14392, 15);
        x.addRule(0, 31, 1, 1, 602, 0);
        for (int i = 0; i < x.zone(0, 3); i++) {
            int instant = x.transition(0, i, 0);
            Due.same("ahead of the transition " + i, x.offsetAgain(0, instant - 1), x.transition(0, i, 1));
            Due.same("at the transition " + i, x.offsetAgain(0, instant), x.transition(0, i, 2));
        }
        // The change at New Year 2001 is void: by the wall it comes ahead of the rule of December 31, 2000.
        Due.same("the transitions", x.zone(0, 3), 66);
        Due.same("the void events", x.zone(0, 4), 1);
    }

    private static void eachEventOnce() {
        Due.sentence("Promise 14", "event by event .., year by year, without the transitions");
        Due.same("ahead of any other call", Given.zone(60).offsetAgain(0, 0), 60);
        // The first change changes nothing; taken once more behind the second one, it would.
        ZoneCompiler x = Given.zone(840);
        x.changeBase(0, 366, 840);
        x.changeBase(0, 366, -720);
        Due.same("changes at New Year", x.offsetAgain(0, 16832719), -720);
        Due.same("by the transitions", x.offset(0, 16832719), -720);
        Due.same("ahead of them", x.offsetAgain(0, 1440 * 366 - 841), 840);
    }

    private static void compiledAnew() {
        Due.sentence(COMPILING,
                "The events of a zone are those of its rules .. and its changes: of those that it has now");
        ZoneCompiler x = twoEvents(660);
        Due.row("zone(0, what)", what -> x.zone(0, what), 0, 2, 0, 1, 1, 2, 60, 60, 0);
        x.addRule(0, 0, 1, 10, 6590, 5);
        Due.row("with a rule more", what -> x.zone(0, what), 0, 3, 0, 1, 2, 3, 60, 60, 0);
        x.changeBase(0, 20, -90);
        Due.row("with a change more", what -> x.zone(0, what), 0, 3, 1, 2, 2, 4, -30, 60, -30);
        x.dropRule(0, 0);
        Due.row("with a rule less", what -> x.zone(0, what), 0, 2, 1, 2, 1, 3, -85, 5, -85);
        x.undo();
        Due.row("with it again", what -> x.zone(0, what), 0, 3, 1, 2, 2, 4, -30, 60, -30);
    }

    private static void offsetsOfNoZone() {
        Due.sentence("Promises 13 to 15", "Throws IndexOutOfBoundsException if there is no such zone");
        Due.range("offset(zone, 0)", Due.INDEX, 0, 0, zone -> Given.zone(0).offset(zone, 0));
        Due.range("offsetAgain(zone, 0)", Due.INDEX, 0, 0, zone -> Given.zone(0).offsetAgain(zone, 0));
        Due.range("toLocal(zone, 0)", Due.INDEX, 0, 0, zone -> Given.zone(0).toLocal(zone, 0));
    }
}
