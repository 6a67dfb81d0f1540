import java.util.ArrayList;
import java.util.List;
import java.util.function.Consumer;
import java.util.function.Supplier;

/**
 * Each call that the document refuses: it throws what is listed, the first of several, and leaves the state unchanged,
 * also what can be undone, what was saved and what lies in the buffer.
 */
public final class RefusalTest {

    private static final int LEAST = Integer.MIN_VALUE;
    private static final int MOST = Integer.MAX_VALUE;

    private record Refused(String call, Class<?> want, Consumer<ZoneCompiler> body) { }

    private static final List<Refused> REFUSED = new ArrayList<>();

    private RefusalTest() {
    }

    public static void main(String[] args) {
        calendar();
        zones();
        conversions();
        meetings();
        searches();
        texts();
        refuseAll(RefusalTest::small);
        REFUSED.clear();
        ofAFullObject();
        refuseAll(RefusalTest::full);
        runThatThrows();
        undoAndRestoreOfNothing();
        Due.end();
    }

    private static void refused(String call, Class<?> want, Consumer<ZoneCompiler> body) {
        REFUSED.add(new Refused(call, want, body));
    }

    /** A zone with two rules, a change and a gap, a meeting with a void occurrence and one that is cancelled. */
    private static ZoneCompiler small() {
        ZoneCompiler x = Given.zone(0);
        x.addMeeting(0, 5, 0, 60, 3, 2);
        x.save();
        Given.january(x, 8, 0, 60);
        Given.january(x, 10, 0, 30);
        x.changeBase(0, 20, 5);
        x.addMeeting(0, 7, 10, 60, 3, 3);
        x.cancel(1, 1);
        x.shift(1, 2, 20);
        x.write(0, 1);
        Given.put(x, "zone:9;");
        return x;
    }

    /** As many of all as there can be; the buffer is full of a text that is none. */
    private static ZoneCompiler full() {
        ZoneCompiler x = Given.full();
        x.save();
        x.shift(9, 0, 1);
        x.write(5, 7);
        for (int i = 0; i < 15; i++) {
            x.append(0x21212121);
        }
        return x;
    }

    private static void refuseAll(Supplier<ZoneCompiler> given) {
        compare(given, "itself", x -> { });
        compare(given, "undo", ZoneCompiler::undo);
        compare(given, "restore", ZoneCompiler::restore);
        compare(given, "run", x -> {
            try {
                x.run();
            } catch (IllegalArgumentException none) {
                // The buffer of the full object holds no text.
            }
        });
    }

    /** What there is behind a refused call and another call has to be what there is behind the other call alone. */
    private static void compare(Supplier<ZoneCompiler> given, String name, Consumer<ZoneCompiler> behind) {
        ZoneCompiler twin = given.get();
        behind.accept(twin);
        String due = Told.all(twin);
        for (Refused refused : REFUSED) {
            ZoneCompiler x = given.get();
            Due.sentence("Description", "the one listed first .. is thrown");
            Due.thrown(refused.call, refused.want, () -> refused.body.accept(x));
            Due.sentence("Description", "A method that throws an exception leaves the state unchanged");
            behind.accept(x);
            Due.alike(refused.call + ", then " + name + ": the state", Told.all(x), due);
        }
    }

    private static void calendar() {
        refused("day(32, 1, 1)", Due.ARGUMENT, x -> x.day(32, 1, 1));
        refused("day(0, 13, 1)", Due.ARGUMENT, x -> x.day(0, 13, 1));
        refused("day(0, 1, 0)", Due.ARGUMENT, x -> x.day(0, 1, 0));
        refused("day of extremes", Due.ARGUMENT, x -> x.day(LEAST, MOST, LEAST));
        refused("date(11688, 0)", Due.INDEX, x -> x.date(11688, 0));
        refused("date(-1, 6)", Due.INDEX, x -> x.date(-1, 6));
        refused("date(0, 6)", Due.ARGUMENT, x -> x.date(0, 6));
        refused("date of extremes", Due.INDEX, x -> x.date(MOST, LEAST));
    }

    private static void zones() {
        refused("addZone(841)", Due.ARGUMENT, x -> x.addZone(841));
        refused("changeBase(1, 0, 0)", Due.INDEX, x -> x.changeBase(1, 0, 0));
        refused("changeBase(1, -1, 841)", Due.INDEX, x -> x.changeBase(1, -1, 841));
        refused("changeBase(0, 11688, 0)", Due.ARGUMENT, x -> x.changeBase(0, 11688, 0));
        refused("changeBase(0, 0, -721)", Due.ARGUMENT, x -> x.changeBase(0, 0, -721));
        refused("addRule(1, 31, 1, 1, 0, 0)", Due.INDEX, x -> x.addRule(1, 31, 1, 1, 0, 0));
        refused("addRule of no zone, with all wrong", Due.INDEX, x -> x.addRule(-1, -1, 0, 0, -1, -1));
        refused("addRule of no years", Due.ARGUMENT, x -> x.addRule(0, 32, 1, 1, 0, 0));
        refused("addRule of no month", Due.ARGUMENT, x -> x.addRule(0, 31, 13, 1, 0, 0));
        refused("addRule of no date", Due.ARGUMENT, x -> x.addRule(0, 31, 1, 32, 0, 0));
        refused("addRule of no minute", Due.ARGUMENT, x -> x.addRule(0, 31, 1, 1, 14400, 0));
        refused("addRule of no clock", Due.ARGUMENT, x -> x.addRule(0, 31, 1, 1, 3, 0));
        refused("addRule of no saving", Due.ARGUMENT, x -> x.addRule(0, 31, 1, 1, 0, 121));
        refused("addRule of extremes", Due.ARGUMENT, x -> x.addRule(0, MOST, MOST, MOST, MOST, MOST));
        refused("dropRule(0, 2)", Due.INDEX, x -> x.dropRule(0, 2));
        refused("dropRule(1, 0)", Due.INDEX, x -> x.dropRule(1, 0));
        refused("zone(1, 9)", Due.INDEX, x -> x.zone(1, 9));
        refused("zone(0, 9)", Due.ARGUMENT, x -> x.zone(0, 9));
        refused("rule(1, 0, 7)", Due.INDEX, x -> x.rule(1, 0, 7));
        refused("rule(0, 2, 7)", Due.INDEX, x -> x.rule(0, 2, 7));
        refused("rule(0, 0, 7)", Due.ARGUMENT, x -> x.rule(0, 0, 7));
        refused("eventDay(1, 0, 32)", Due.INDEX, x -> x.eventDay(1, 0, 32));
        refused("eventDay(0, 2, 32)", Due.INDEX, x -> x.eventDay(0, 2, 32));
        refused("eventDay(0, 0, 32)", Due.ARGUMENT, x -> x.eventDay(0, 0, 32));
        refused("eventDay(0, 0, 1)", Due.ELEMENT, x -> x.eventDay(0, 0, 1));
        refused("transition(1, 3, 5)", Due.INDEX, x -> x.transition(1, 3, 5));
        refused("transition(0, 3, 5)", Due.ELEMENT, x -> x.transition(0, 3, 5));
        refused("transition(0, 2, 5)", Due.ARGUMENT, x -> x.transition(0, 2, 5));
        refused("voidEvent(1, 0, 3)", Due.INDEX, x -> x.voidEvent(1, 0, 3));
        refused("voidEvent(0, 0, 3)", Due.ELEMENT, x -> x.voidEvent(0, 0, 3));
    }

    private static void conversions() {
        int gap = 1440 * 7;
        refused("offset(1, -2001)", Due.INDEX, x -> x.offset(1, -2001));
        refused("offset(0, -2001)", Due.ARGUMENT, x -> x.offset(0, -2001));
        refused("offsetAgain(1, 16832720)", Due.INDEX, x -> x.offsetAgain(1, 16832720));
        refused("offsetAgain(0, 16832720)", Due.ARGUMENT, x -> x.offsetAgain(0, 16832720));
        refused("toLocal(1, MOST)", Due.INDEX, x -> x.toLocal(1, MOST));
        refused("toLocal(0, MOST)", Due.ARGUMENT, x -> x.toLocal(0, MOST));
        refused("instants(1, -1)", Due.INDEX, x -> x.instants(1, -1));
        refused("instants(0, -1)", Due.ARGUMENT, x -> x.instants(0, -1));
        refused("instantsAgain(1, 16830720)", Due.INDEX, x -> x.instantsAgain(1, 16830720));
        refused("instantsAgain(0, 16830720)", Due.ARGUMENT, x -> x.instantsAgain(0, 16830720));
        refused("cause(1, -1)", Due.INDEX, x -> x.cause(1, -1));
        refused("cause(0, -1)", Due.ARGUMENT, x -> x.cause(0, -1));
        refused("toInstant(1, -1, 4)", Due.INDEX, x -> x.toInstant(1, -1, 4));
        refused("toInstant(0, -1, 3)", Due.ARGUMENT, x -> x.toInstant(0, -1, 3));
        refused("toInstant of a gap, 4", Due.ARGUMENT, x -> x.toInstant(0, gap, 4));
        refused("toInstant of a gap, 3", Due.UNSUPPORTED, x -> x.toInstant(0, gap, 3));
        refused("convert(1, -1, 0, 4)", Due.INDEX, x -> x.convert(1, -1, 0, 4));
        refused("convert(0, -1, 1, 4)", Due.INDEX, x -> x.convert(0, -1, 1, 4));
        refused("convert of a gap to no zone, 3", Due.INDEX, x -> x.convert(0, gap, 1, 3));
        refused("convert(0, -1, 0, 3)", Due.ARGUMENT, x -> x.convert(0, -1, 0, 3));
        refused("convert of a gap, -1", Due.ARGUMENT, x -> x.convert(0, gap, 0, -1));
        refused("convert of a gap, 3", Due.UNSUPPORTED, x -> x.convert(0, gap, 0, 3));
        refused("dayLength(1, 0)", Due.INDEX, x -> x.dayLength(1, 0));
        refused("dayLength(0, 11688)", Due.INDEX, x -> x.dayLength(0, 11688));
        refused("account(1, 32, 4)", Due.INDEX, x -> x.account(1, 32, 4));
        refused("account(0, 32, 0)", Due.ARGUMENT, x -> x.account(0, 32, 0));
        refused("account(0, 0, 4)", Due.ARGUMENT, x -> x.account(0, 0, 4));
    }

    private static void meetings() {
        refused("addMeeting(1, -1, ..)", Due.INDEX, x -> x.addMeeting(1, -1, -1, 0, 4, 0));
        refused("addMeeting on no day", Due.ARGUMENT, x -> x.addMeeting(0, 11688, 0, 1, 0, 1));
        refused("addMeeting at no minute", Due.ARGUMENT, x -> x.addMeeting(0, 0, 1440, 1, 0, 1));
        refused("addMeeting of no duration", Due.ARGUMENT, x -> x.addMeeting(0, 0, 0, 0, 0, 1));
        refused("addMeeting of no mode", Due.ARGUMENT, x -> x.addMeeting(0, 0, 0, 1, 4, 1));
        refused("addMeeting of no occurrence", Due.ARGUMENT, x -> x.addMeeting(0, 0, 0, 1, 0, 0));
        refused("addMeeting of 41 occurrences", Due.ARGUMENT, x -> x.addMeeting(0, 0, 0, 1, 0, 41));
        refused("recur(2, 4, 0, -1)", Due.INDEX, x -> x.recur(2, 4, 0, -1));
        refused("recur(1, 4, 1, 0)", Due.ARGUMENT, x -> x.recur(1, 4, 1, 0));
        refused("recur(1, 0, 61, 0)", Due.ARGUMENT, x -> x.recur(1, 0, 61, 0));
        refused("recur(1, 1, 9, 1)", Due.ARGUMENT, x -> x.recur(1, 1, 9, 1));
        refused("recur(1, 1, 1, 0)", Due.ARGUMENT, x -> x.recur(1, 1, 1, 0));
        refused("recur(1, 2, 1, 1)", Due.ARGUMENT, x -> x.recur(1, 2, 1, 1));
        refused("cancel(2, 0)", Due.INDEX, x -> x.cancel(2, 0));
        refused("cancel(1, 3)", Due.INDEX, x -> x.cancel(1, 3));
        refused("shift(2, 0, 1441)", Due.INDEX, x -> x.shift(2, 0, 1441));
        refused("shift(1, 3, 1441)", Due.INDEX, x -> x.shift(1, 3, 1441));
        refused("shift(1, 0, 1441)", Due.ARGUMENT, x -> x.shift(1, 0, 1441));
        refused("meeting(2, 10)", Due.INDEX, x -> x.meeting(2, 10));
        refused("meeting(0, 10)", Due.ARGUMENT, x -> x.meeting(0, 10));
        refused("occurrence(2, 0, 6)", Due.INDEX, x -> x.occurrence(2, 0, 6));
        refused("occurrence(1, 3, 6)", Due.INDEX, x -> x.occurrence(1, 3, 6));
        refused("occurrence(1, 3, 5)", Due.INDEX, x -> x.occurrence(1, 3, 5));
        refused("occurrence of a cancelled one, 6", Due.ARGUMENT, x -> x.occurrence(1, 1, 6));
        refused("occurrence of a cancelled one, 5", Due.ELEMENT, x -> x.occurrence(1, 1, 5));
        refused("occurrence of a void one, 5", Due.ELEMENT, x -> x.occurrence(1, 0, 5));
    }

    private static void searches() {
        refused("next(2, -2001)", Due.INDEX, x -> x.next(2, -2001));
        refused("next(0, -2001)", Due.ARGUMENT, x -> x.next(0, -2001));
        refused("next(0, 16832719)", Due.ELEMENT, x -> x.next(0, 16832719));
        refused("clash(2, 0)", Due.INDEX, x -> x.clash(2, 0));
        refused("clash(0, 2)", Due.INDEX, x -> x.clash(0, 2));
        refused("agenda(-2001, -1)", Due.ARGUMENT, x -> x.agenda(-2001, -1));
        refused("agenda(0, -1)", Due.ELEMENT, x -> x.agenda(0, -1));
        refused("agenda(0, 3)", Due.ELEMENT, x -> x.agenda(0, 3));
        refused("drift(2, 0)", Due.INDEX, x -> x.drift(2, 0));
        refused("drift(0, 1)", Due.INDEX, x -> x.drift(0, 1));
        refused("free(-2001, 0, 1)", Due.ARGUMENT, x -> x.free(-2001, 0, 1));
        refused("free(0, 16832720, 1)", Due.ARGUMENT, x -> x.free(0, 16832720, 1));
        refused("free(9, 0, 1441)", Due.ARGUMENT, x -> x.free(9, 0, 1441));
        refused("free(9, 0, 1)", Due.ELEMENT, x -> x.free(9, 0, 1));
    }

    private static void texts() {
        refused("append of a blank", Due.ARGUMENT, x -> x.append(0x61616120));
        refused("write(0, 2)", Due.INDEX, x -> x.write(0, 2));
        refused("write(1, 0)", Due.INDEX, x -> x.write(1, 0));
        refused("character(-1)", Due.INDEX, x -> x.character(-1));
        refused("character(60)", Due.INDEX, x -> x.character(60));
        refused("count(6)", Due.ARGUMENT, x -> x.count(6));
    }

    private static void ofAFullObject() {
        refused("addZone(0)", Due.STATE, x -> x.addZone(0));
        refused("addZone(841)", Due.ARGUMENT, x -> x.addZone(841));
        refused("changeBase(5, 0, 0)", Due.STATE, x -> x.changeBase(5, 0, 0));
        refused("changeBase(5, 0, 841)", Due.ARGUMENT, x -> x.changeBase(5, 0, 841));
        refused("changeBase(5, -1, 0)", Due.ARGUMENT, x -> x.changeBase(5, -1, 0));
        refused("changeBase(6, 0, 0)", Due.INDEX, x -> x.changeBase(6, 0, 0));
        refused("addRule(5, 31, 1, 1, 0, 0)", Due.STATE, x -> x.addRule(5, 31, 1, 1, 0, 0));
        refused("addRule(5, 31, 1, 1, 0, 121)", Due.ARGUMENT, x -> x.addRule(5, 31, 1, 1, 0, 121));
        refused("addRule(6, 31, 1, 1, 0, 0)", Due.INDEX, x -> x.addRule(6, 31, 1, 1, 0, 0));
        refused("addMeeting(5, 0, 0, 1, 0, 1)", Due.STATE, x -> x.addMeeting(5, 0, 0, 1, 0, 1));
        refused("addMeeting(5, 0, 0, 0, 0, 1)", Due.ARGUMENT, x -> x.addMeeting(5, 0, 0, 0, 0, 1));
        refused("addMeeting(5, 0, 0, 1, 0, 41)", Due.ARGUMENT, x -> x.addMeeting(5, 0, 0, 1, 0, 41));
        refused("addMeeting(6, 0, 0, 1, 0, 1)", Due.INDEX, x -> x.addMeeting(6, 0, 0, 1, 0, 1));
        refused("append of one more", Due.STATE, x -> x.append('!'));
        refused("append of a blank more", Due.ARGUMENT, x -> x.append(0x21212120));
    }

    private static void runThatThrows() {
        Due.sentence("Promise 35",
                "The buffer is empty afterwards, also if an exception is thrown: nothing else changes");
        String[] texts = {"", "zone", "zone:1;zone:2", "zone:1;cancel:0,0;drop:0,0;drop:0,1;", "zone:841;"};
        int[] positions = {0, 4, 13, 27, 0};
        Class<?>[] wants = {Due.ARGUMENT, Due.ARGUMENT, Due.ARGUMENT, Due.STATE, Due.STATE};
        for (int i = 0; i < texts.length; i++) {
            String text = texts[i];
            ZoneCompiler twin = small();
            twin.run();
            twin.undo();
            ZoneCompiler x = small();
            x.run();
            x.undo();
            Due.thrown("run of " + text, wants[i], () -> Given.ran(x, text));
            Due.alike("the state behind " + text, Told.all(x),
                    Told.all(twin).replace("error -1", "error " + positions[i]));
        }
    }

    private static void undoAndRestoreOfNothing() {
        Due.sentence("Promises 39 and 41", "Throws IllegalStateException if there is none, if nothing was saved");
        ZoneCompiler x = new ZoneCompiler();
        String due = Told.all(x);
        Due.thrown("undo()", Due.STATE, x::undo);
        Due.thrown("restore()", Due.STATE, x::restore);
        Due.alike("the state", Told.all(x), due);
    }
}
