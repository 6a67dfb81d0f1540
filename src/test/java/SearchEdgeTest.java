/** The sentences of the document about next, clash, agenda, drift and free: each inside its boundary and outside. */
public final class SearchEdgeTest {

    private static final int LEAST = -2000;
    private static final int MOST = 16832719;
    /** Day 5 begins here, by the instants and in a zone of the base 0. */
    private static final int FIFTH = 1440 * 5;

    private SearchEdgeTest() {
    }

    public static void main(String[] args) {
        nextAtAnInstantOrLater();
        nextByInstants();
        nextOfLikeOnes();
        nextThatTakesPlace();
        nextOfNoInstant();
        aMinuteInCommon();
        lowestOfTheFirst();
        lowestOfTheOther();
        clashOfAMeetingWithItself();
        clashOfThoseThatTakePlace();
        clashOfTheLast();
        agendaAtAnInstantOrLater();
        agendaByInstants();
        agendaOfThoseThatTakePlace();
        agendaEntriesThatAreNot();
        fullAgenda();
        driftOfDifferentMinutes();
        driftOfThoseThatTakePlace();
        driftBelowZero();
        driftOfAsManyAsThereCanBe();
        freeOfNoInstant();
        freeAheadOfOne();
        freeBehindOne();
        freeInTime();
        freeOfOneThatGoesOn();
        freeOfSeveral();
        freeOfThoseThatTakePlace();
        freeAtTheEnds();
        Due.end();
    }

    private static ZoneCompiler meeting(int day, int minute, int duration, int many) {
        ZoneCompiler x = Given.zone(0);
        x.addMeeting(0, day, minute, duration, 0, many);
        return x;
    }

    private static void nextAtAnInstantOrLater() {
        Due.sentence("Promise 29", "begins at an instant or later");
        ZoneCompiler x = meeting(5, 0, 60, 3);
        int[][] due = {{LEAST, 0}, {FIFTH - 1, 0}, {FIFTH, 0}, {FIFTH + 1, 1}, {FIFTH + 2880, 2}};
        for (int[] at : due) {
            Due.same("next(0, " + at[0] + ")", x.next(0, at[0]), at[1]);
        }
        Due.sentence("Promise 29", "Throws NoSuchElementException if there is none");
        Due.outside("next", Due.ELEMENT, at -> x.next(0, at), FIFTH + 2881, MOST);
    }

    private static void nextByInstants() {
        Due.sentence("Promise 29", "by the instants at which they begin");
        ZoneCompiler x = meeting(5, 0, 60, 3);
        x.shift(0, 0, 1440);
        x.shift(0, 1, -1);
        Due.same("the second one begins first", x.next(0, LEAST), 1);
        Due.same("then the first one", x.next(0, FIFTH + 1440), 0);
        Due.same("then the third one", x.next(0, FIFTH + 1441), 2);
    }

    private static void nextOfLikeOnes() {
        Due.sentence("Promise 29", "of like ones that with the lowest number");
        ZoneCompiler x = meeting(5, 0, 60, 3);
        x.shift(0, 0, 1440);
        x.shift(0, 2, -1440);
        Due.same("of three like ones", x.next(0, FIFTH + 1440), 0);
        x.shift(0, 0, 1439);
        Due.same("a minute ahead", x.next(0, FIFTH + 1440), 1);
        x.shift(0, 1, 1);
        Due.same("a minute behind", x.next(0, FIFTH + 1440), 2);
    }

    private static void nextThatTakesPlace() {
        Due.sentence("Promise 29", "the first occurrence of a meeting that takes place");
        ZoneCompiler x = meeting(0, 0, 60, 3);
        x.shift(0, 0, -1);
        Due.same("a void one is passed over", x.next(0, LEAST), 1);
        x.cancel(0, 1);
        Due.same("a cancelled one is passed over", x.next(0, LEAST), 2);
        x.cancel(0, 2);
        Due.thrown("none takes place", Due.ELEMENT, () -> x.next(0, LEAST));
    }

    private static void nextOfNoInstant() {
        Due.sentence("Promise 29", "Throws IllegalArgumentException if there is no such instant");
        Due.inside("next(0, -2000)", at -> meeting(0, 0, 1, 1).next(0, at), LEAST);
        Due.inside("next(0, 16832719)", at -> late().next(0, at), 16831439);
        Due.thrown("next(0, 16832719)", Due.ELEMENT, () -> late().next(0, MOST));
        Due.outside("next(0, instant)", Due.ARGUMENT, at -> late().next(0, at), LEAST - 1, MOST + 1, Integer.MIN_VALUE,
                Integer.MAX_VALUE);
    }

    /** A meeting at the greatest instant at which one can begin. */
    private static ZoneCompiler late() {
        ZoneCompiler x = Given.zone(-720);
        x.addMeeting(0, 11687, 1439, 1440, 0, 1);
        return x;
    }

    /** The clash of a meeting from 00:00 to 01:00 with one that begins so many minutes behind 00:00. */
    private static int clash(int minutes, int duration) {
        ZoneCompiler x = meeting(5, 0, 60, 1);
        x.addMeeting(0, 5, 0, duration, 0, 1);
        x.shift(1, 0, minutes);
        Due.same("the other way round", x.clash(1, 0), x.clash(0, 1));
        return x.clash(0, 1);
    }

    private static void aMinuteInCommon() {
        Due.sentence("Promise 30", "have a minute of the instants in common");
        Due.same("one begins as the other ends", clash(60, 1), -1);
        Due.same("one begins in the last minute", clash(59, 1), 0);
        Due.same("one ends as the other begins", clash(-30, 30), -1);
        Due.same("one ends behind the first minute", clash(-30, 31), 0);
        Due.same("one within the other", clash(10, 10), 0);
        Due.same("one around the other", clash(-10, 100), 0);
        Due.same("like ones", clash(0, 60), 0);
        Due.same("a day ahead", clash(-1440, 1440), -1);
    }

    private static void lowestOfTheFirst() {
        Due.sentence("Promise 30", "the lowest one of the first meeting");
        ZoneCompiler x = meeting(5, 0, 60, 3);
        x.addMeeting(0, 4, 0, 60, 0, 4);
        Due.same("the first one", x.clash(0, 1), 1);
        x.cancel(0, 0);
        Due.same("the second one", x.clash(0, 1), 102);
        x.shift(0, 1, 60);
        Due.same("the third one", x.clash(0, 1), 203);
        x.cancel(0, 0);
        x.shift(0, 0, 1440);
        Due.same("the lowest one, though not the earliest", x.clash(0, 1), 2);
        x.cancel(1, 2);
        Due.same("there are none of it", x.clash(0, 1), 203);
        x.cancel(1, 3);
        Due.same("-1 if there are none", x.clash(0, 1), -1);
    }

    private static void lowestOfTheOther() {
        Due.sentence("Promise 30", "of several the lowest one of the other meeting");
        ZoneCompiler x = meeting(5, 720, 1440, 1);
        x.addMeeting(0, 5, 0, 1440, 0, 2);
        Due.same("two of the other", x.clash(0, 1), 0);
        x.shift(1, 0, 1440);
        x.shift(1, 1, -1440);
        Due.same("the lowest one, though not the earliest", x.clash(0, 1), 0);
        x.cancel(1, 0);
        Due.same("the second one", x.clash(0, 1), 1);
    }

    private static void clashOfAMeetingWithItself() {
        Due.sentence("Promise 30",
                "If both meetings are the same, the first one has a lower number than the other one");
        Due.same("one occurrence", meeting(5, 0, 1440, 1).clash(0, 0), -1);
        ZoneCompiler x = meeting(5, 0, 1440, 3);
        Due.same("one ends as the next begins", x.clash(0, 0), -1);
        x.shift(0, 0, 1);
        Due.same("a minute later", x.clash(0, 0), 1);
        x.shift(0, 0, 0);
        x.shift(0, 2, -1);
        Due.same("a minute earlier", x.clash(0, 0), 102);
        x.shift(0, 1, 1440);
        x.shift(0, 0, 0);
        x.shift(0, 2, -1440);
        Due.same("those in turned order", x.clash(0, 0), -1);
        x.shift(0, 2, -1439);
        Due.same("and a minute later", x.clash(0, 0), 102);
    }

    private static void clashOfThoseThatTakePlace() {
        Due.sentence("Promise 30", "two occurrences .. that take place");
        ZoneCompiler x = meeting(0, 0, 60, 2);
        x.addMeeting(0, 0, 0, 60, 0, 2);
        x.shift(0, 0, -1);
        Due.same("one of the first is void", x.clash(0, 1), 101);
        x.shift(0, 0, 0);
        x.shift(1, 0, -1);
        Due.same("one of the other is void", x.clash(0, 1), 101);
        x.cancel(1, 1);
        Due.same("and one of them is cancelled", x.clash(0, 1), -1);
        x.cancel(1, 1);
        x.cancel(0, 1);
        Due.same("or one of the first", x.clash(0, 1), -1);
    }

    private static void clashOfTheLast() {
        Due.sentence("Promise 30", "Returns 100 times the first occurrence plus the other one");
        ZoneCompiler x = meeting(5, 0, 60, 40);
        x.addMeeting(0, 5, 60, 60, 0, 40);
        Due.same("none", x.clash(0, 1), -1);
        x.shift(0, 39, 1);
        Due.same("the last ones", x.clash(0, 1), 3939);
        x.shift(1, 39, -1440);
        Due.same("the last one of the first none", x.clash(0, 1), -1);
        x.shift(0, 0, 30);
        Due.same("the first ones", x.clash(0, 1), 0);
    }

    private static void agendaAtAnInstantOrLater() {
        Due.sentence("Promise 31", "begin at an instant or later");
        ZoneCompiler x = meeting(5, 0, 60, 3);
        int[][] due = {{LEAST, 0}, {FIFTH, 0}, {FIFTH + 1, 1}, {FIFTH + 1440, 1}, {FIFTH + 1441, 2}, {FIFTH + 2880, 2}};
        for (int[] at : due) {
            Due.same("agenda(" + at[0] + ", 0)", x.agenda(at[0], 0), at[1]);
        }
        Due.outside("agenda(instant, 0)", Due.ELEMENT, at -> x.agenda(at, 0), FIFTH + 2881, MOST);
        Due.sentence("Promise 31", "Throws IllegalArgumentException if there is no such instant");
        Due.outside("agenda(instant, 0)", Due.ARGUMENT, at -> x.agenda(at, 0), LEAST - 1, MOST + 1, Integer.MIN_VALUE,
                Integer.MAX_VALUE);
    }

    private static void agendaByInstants() {
        Due.sentence("Promise 31", "by the instants at which they begin, of like ones by their meetings, .. numbers");
        ZoneCompiler x = meeting(5, 0, 60, 3);
        x.addMeeting(0, 5, 0, 1, 0, 3);
        Due.row("agenda(0, i)", i -> x.agenda(0, i), 0, 100, 1, 101, 2, 102);
        x.shift(1, 2, -1440);
        x.shift(0, 2, -1440);
        Due.row("agenda(0, i)", i -> x.agenda(0, i), 0, 100, 1, 2, 101, 102);
        x.shift(1, 1, -1);
        Due.row("agenda(0, i)", i -> x.agenda(0, i), 0, 100, 101, 1, 2, 102);
        x.shift(0, 0, 1440);
        Due.row("agenda(0, i)", i -> x.agenda(0, i), 100, 101, 0, 1, 2, 102);
    }

    private static void agendaOfThoseThatTakePlace() {
        Due.sentence("Promise 31", "of all occurrences of all meetings that take place");
        ZoneCompiler x = meeting(0, 0, 60, 3);
        x.addMeeting(0, 0, 30, 60, 0, 2);
        x.shift(0, 0, -1);
        x.cancel(1, 0);
        Due.row("agenda(-2000, i)", i -> x.agenda(LEAST, i), 1, 101, 2);
        Due.thrown("agenda(-2000, 3)", Due.ELEMENT, () -> x.agenda(LEAST, 3));
    }

    private static void agendaEntriesThatAreNot() {
        Due.sentence("Promise 31", "the index, from 0; Throws NoSuchElementException if there is no such entry");
        Due.range("agenda(0, index)", Due.ELEMENT, 0, 2, index -> meeting(5, 0, 60, 3).agenda(0, index));
        Due.range("agenda(FIFTH + 1, index)", Due.ELEMENT, 0, 1,
                index -> meeting(5, 0, 60, 3).agenda(FIFTH + 1, index));
        Due.thrown("without meetings", Due.ELEMENT, () -> Given.zone(0).agenda(0, 0));
    }

    private static void fullAgenda() {
        Due.sentence("Promise 31", "of all occurrences of all meetings: as many as there can be");
        ZoneCompiler x = Given.zone(0);
        for (int i = 0; i < 10; i++) {
            x.addMeeting(0, 100, 9 - i, 1, 0, 40);
        }
        Due.same("the first entry", x.agenda(LEAST, 0), 900);
        Due.same("the last but one", x.agenda(LEAST, 398), 139);
        Due.same("the last entry", x.agenda(LEAST, 399), 39);
        Due.thrown("agenda(-2000, 400)", Due.ELEMENT, () -> x.agenda(LEAST, 400));
        Due.same("count(3)", x.count(3), 400);
    }

    private static void driftOfDifferentMinutes() {
        Due.sentence("Promise 32", "the number of different ones");
        ZoneCompiler x = meeting(5, 0, 60, 3);
        Due.same("like ones", x.drift(0, 0), 1);
        x.shift(0, 1, 1);
        Due.same("one that is a minute later", x.drift(0, 0), 2);
        x.shift(0, 2, 1);
        Due.same("another one like it", x.drift(0, 0), 2);
        x.shift(0, 0, -1439);
        Due.same("the same minute of another day", x.drift(0, 0), 1);
        x.shift(0, 0, -1440);
        Due.same("a minute less", x.drift(0, 0), 2);
        x.addZone(60);
        x.addRule(1, 0, 1, 8, 2, 30);
        Due.same("in a zone whose offset changes", x.drift(0, 1), 3);
    }

    private static void driftOfThoseThatTakePlace() {
        Due.sentence("Promise 32", "among all its occurrences that take place");
        ZoneCompiler x = meeting(0, 0, 60, 3);
        x.shift(0, 0, -1);
        Due.same("one is void", x.drift(0, 0), 1);
        x.shift(0, 0, 1);
        Due.same("it takes place", x.drift(0, 0), 2);
        x.cancel(0, 0);
        Due.same("it is cancelled", x.drift(0, 0), 1);
        x.cancel(0, 1);
        x.cancel(0, 2);
        Due.same("none takes place", x.drift(0, 0), 0);
    }

    private static void driftBelowZero() {
        Due.sentence("In doubt", "counted from midnight also where the local time is less than 0");
        ZoneCompiler x = meeting(0, 0, 60, 2);
        x.addZone(-1);
        x.addZone(-720);
        Due.same("23:59 ahead of the calendar and in it", x.drift(0, 1), 1);
        Due.same("12:00 ahead of the calendar and in it", x.drift(0, 2), 1);
        x.shift(0, 0, 1);
        Due.same("00:00 and 23:59", x.drift(0, 1), 2);
        ZoneCompiler y = Given.zone(840);
        y.addZone(-720);
        y.addMeeting(0, 0, 0, 60, 0, 3);
        Due.same("more than a day below 0", y.drift(0, 1), 1);
        y.shift(0, 0, 120);
        Due.same("one day below 0", y.drift(0, 1), 2);
    }

    private static void driftOfAsManyAsThereCanBe() {
        Due.sentence("Promise 32", "how many minutes of the day: as many as there can be");
        ZoneCompiler x = meeting(5, 0, 60, 40);
        for (int i = 0; i < 40; i++) {
            x.shift(0, i, 36 * i);
        }
        Due.same("drift(0, 0)", x.drift(0, 0), 40);
        x.shift(0, 39, 36 * 38);
        Due.same("two of them alike", x.drift(0, 0), 39);
    }

    private static void freeOfNoInstant() {
        Due.sentence("Promise 33",
                "Throws IllegalArgumentException if there is no such instant, or minutes is out of range");
        Due.inside("free(from, 16832719, 1)", from -> Given.zone(0).free(from, MOST, 1), LEAST, MOST - 1);
        Due.outside("free(from, 16832719, 1)", Due.ARGUMENT, from -> Given.zone(0).free(from, MOST, 1), LEAST - 1,
                MOST + 1, Integer.MIN_VALUE, Integer.MAX_VALUE);
        Due.inside("free(-2000, until, 1)", until -> Given.zone(0).free(LEAST, until, 1), LEAST + 1, MOST);
        Due.outside("free(-2000, until, 1)", Due.ARGUMENT, until -> Given.zone(0).free(LEAST, until, 1), LEAST - 1,
                MOST + 1, Integer.MIN_VALUE, Integer.MAX_VALUE);
        Due.range("free(0, 9999, minutes)", Due.ARGUMENT, 1, 1440, minutes -> Given.zone(0).free(0, 9999, minutes));
    }

    private static void freeAheadOfOne() {
        Due.sentence("Promise 33", "the first instant from which on no occurrence takes place for some minutes");
        ZoneCompiler x = meeting(5, 0, 60, 1);
        Due.same("up to the beginning", x.free(FIFTH - 30, MOST, 30), FIFTH - 30);
        Due.same("a minute more", x.free(FIFTH - 30, MOST, 31), FIFTH + 60);
        Due.same("a minute later", x.free(FIFTH - 29, MOST, 30), FIFTH + 60);
        Due.same("the minute ahead", x.free(FIFTH - 1, MOST, 1), FIFTH - 1);
        Due.same("a day ahead", x.free(FIFTH - 1440, MOST, 1440), FIFTH - 1440);
        Due.same("a day ahead, and a minute", x.free(FIFTH - 1439, MOST, 1440), FIFTH + 60);
    }

    private static void freeBehindOne() {
        Due.sentence("Promise 33", "the first instant from which on no occurrence takes place: at its end");
        ZoneCompiler x = meeting(5, 0, 60, 1);
        Due.same("from its beginning on", x.free(FIFTH, MOST, 1), FIFTH + 60);
        Due.same("from its last minute on", x.free(FIFTH + 59, MOST, 1), FIFTH + 60);
        Due.same("from its end on", x.free(FIFTH + 60, MOST, 1), FIFTH + 60);
        Due.same("from behind its end on", x.free(FIFTH + 61, MOST, 1), FIFTH + 61);
    }

    private static void freeInTime() {
        Due.sentence("Promise 33",
                "the instant at which these minutes have to be over; NoSuchElementException if .. none");
        ZoneCompiler x = meeting(5, 0, 60, 1);
        Due.same("over in time", x.free(FIFTH, FIFTH + 90, 30), FIFTH + 60);
        Due.thrown("a minute late", Due.ELEMENT, () -> x.free(FIFTH, FIFTH + 89, 30));
        Due.same("one minute", x.free(100, 101, 1), 100);
        Due.thrown("no minute", Due.ELEMENT, () -> x.free(100, 100, 1));
        Due.thrown("backwards", Due.ELEMENT, () -> x.free(100, 99, 1));
        Due.thrown("from the end to the beginning", Due.ELEMENT, () -> x.free(MOST, LEAST, 1440));
    }

    private static void freeOfOneThatGoesOn() {
        Due.sentence("In doubt", "that begins before the least instant of free and goes on behind it counts");
        ZoneCompiler x = meeting(5, 0, 1440, 1);
        Due.same("a minute behind its beginning", x.free(FIFTH + 1, MOST, 1), FIFTH + 1440);
        Due.same("in its last minute", x.free(FIFTH + 1439, MOST, 1), FIFTH + 1440);
        Due.same("at its end", x.free(FIFTH + 1440, MOST, 1), FIFTH + 1440);
        Due.same("behind its end", x.free(FIFTH + 1441, MOST, 1), FIFTH + 1441);
    }

    private static void freeOfSeveral() {
        Due.sentence("Promise 33", "no occurrence takes place: of all meetings");
        ZoneCompiler x = meeting(5, 0, 60, 1);
        x.addMeeting(0, 5, 90, 60, 0, 1);
        x.addMeeting(0, 5, 150, 60, 0, 1);
        Due.same("between them", x.free(FIFTH, MOST, 30), FIFTH + 60);
        Due.same("not between them", x.free(FIFTH, MOST, 31), FIFTH + 210);
        x.addMeeting(0, 5, 10, 120, 0, 1);
        Due.same("one goes on as another ends", x.free(FIFTH, MOST, 1), FIFTH + 210);
        x.addMeeting(0, 4, 1439, 1440, 0, 1);
        Due.same("one goes on behind all", x.free(FIFTH, MOST, 1), FIFTH + 1439);
        x.addMeeting(0, 5, 1439, 1, 0, 1);
        Due.same("one begins as it ends", x.free(FIFTH, MOST, 1), FIFTH + 1440);
        ZoneCompiler many = meeting(5, 0, 60, 40);
        many.addMeeting(0, 5, 0, 7, 0, 40);
        int last = FIFTH + 1440 * 39;
        Due.same("the last one of a meeting", many.free(last, MOST, 1), last + 60);
        many.cancel(0, 39);
        Due.same("the last one of another meeting", many.free(last, MOST, 1), last + 7);
    }

    private static void freeOfThoseThatTakePlace() {
        Due.sentence("Promise 33", "no occurrence takes place: void and cancelled ones do not");
        ZoneCompiler x = meeting(0, 0, 60, 2);
        Due.same("the first one", x.free(0, MOST, 1), 60);
        x.cancel(0, 0);
        Due.same("it is cancelled", x.free(0, MOST, 1), 0);
        x.cancel(0, 0);
        x.shift(0, 0, -1);
        Due.same("it is void", x.free(0, MOST, 1), 0);
        Due.same("the second one", x.free(1440, MOST, 1), 1500);
    }

    private static void freeAtTheEnds() {
        Due.sentence("Promise 33", "the least instant; the instant at which ..: at both ends of the instants");
        ZoneCompiler x = late();
        int begin = 16831439;
        Due.same("the first minute", x.free(LEAST, LEAST + 1, 1), LEAST);
        Due.same("ahead of the last meeting there is", x.free(begin - 1, MOST, 1), begin - 1);
        Due.thrown("its end is behind the instants", Due.ELEMENT, () -> x.free(begin, MOST, 1));
        ZoneCompiler y = Given.zone(0);
        Due.same("the last day", y.free(MOST - 1440, MOST, 1440), MOST - 1440);
        Due.thrown("not quite a day", Due.ELEMENT, () -> y.free(MOST - 1439, MOST, 1440));
        Due.thrown("from the last instant on", Due.ELEMENT, () -> y.free(MOST, MOST, 1));
        ZoneCompiler first = Given.zone(840);
        first.addMeeting(0, 0, 0, 1440, 0, 1);
        Due.same("ahead of the first meeting there is", first.free(LEAST, MOST, 1160), LEAST);
        Due.same("not enough ahead of it", first.free(LEAST, MOST, 1161), 600);
    }
}
