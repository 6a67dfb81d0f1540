import java.util.function.Consumer;

/** The sentences of the document about undo, saving and counts: each inside its boundary and outside. */
public final class UndoEdgeTest {

    private static final String CHANGES = "Changes that can be undone";

    private UndoEdgeTest() {
    }

    public static void main(String[] args) {
        eachChange();
        nothingChangesByIt();
        callsThatAreNoChanges();
        callsThatThrow();
        theLatestEight();
        aRound();
        theLatestFirst();
        changesBehindUndo();
        theBufferStays();
        theErrorPositionStays();
        theWrittenTextStays();
        whatWasSavedStays();
        noneToUndo();
        saved();
        savedInPlace();
        savedOfNothing();
        staysSaved();
        nothingCanBeUndone();
        nothingWasSaved();
        restoreLeavesTheRest();
        zonesInThePlaceOfOthers();
        meetingsInThePlaceOfOthers();
        toldAheadOfIt();
        ofAllThereCanBe();
        counts();
        Due.end();
    }

    /** A zone with a rule and a change, and a meeting of which one occurrence is shifted: six changes. */
    private static ZoneCompiler small() {
        ZoneCompiler x = Given.zone(60);
        Given.january(x, 10, 0, 30);
        x.changeBase(0, 20, 90);
        x.addMeeting(0, 5, 600, 60, 0, 3);
        x.shift(0, 1, 15);
        x.cancel(0, 2);
        return x;
    }

    /** Six changes came ahead of the one that is tried. */
    private static void change(String call, Consumer<ZoneCompiler> body) {
        ZoneCompiler x = small();
        String before = Told.book(x);
        body.accept(x);
        Due.same("the changes behind " + call, x.count(4), 7);
        Due.same("undo of " + call, x.undo(), 6);
        Due.alike("what there is behind undo of " + call, Told.book(x), before);
    }

    private static void eachChange() {
        Due.sentence(CHANGES, "A call of addZone, .. or run that throws no exception is such a change");
        change("addZone", x -> x.addZone(0));
        change("changeBase", x -> x.changeBase(0, 5, 0));
        change("addRule", x -> x.addRule(0, 31, 5, 5, 0, 60));
        change("dropRule", x -> x.dropRule(0, 0));
        change("addMeeting", x -> x.addMeeting(0, 0, 0, 1, 0, 40));
        change("recur", x -> x.recur(0, 1, 1, 127));
        change("cancel", x -> x.cancel(0, 0));
        change("taking that back", x -> x.cancel(0, 2));
        change("shift", x -> x.shift(0, 1, -15));
        change("run", x -> Given.ran(x, "zone:1;base:0,5,0;drop:0,0;cancel:0,0;cancel:0,2;"));
    }

    private static void nothingChangesByIt() {
        Due.sentence(CHANGES, "also if nothing changes by it");
        change("shift to the same", x -> x.shift(0, 1, 15));
        change("shift by nothing", x -> x.shift(0, 0, 0));
        change("recur as before", x -> {
            x.recur(0, 0, 1, 0);
            x.undo();
            x.recur(0, 0, 1, 0);
        });
        change("a change to the same base", x -> x.changeBase(0, 30, 90));
        change("run of what takes itself back", x -> Given.ran(x, "cancel:0,0;cancel:0,0;"));
    }

    private static void callsThatAreNoChanges() {
        Due.sentence(CHANGES, "A call of ..: no other one");
        ZoneCompiler x = small();
        Given.put(x, "zo");
        x.write(0, 0);
        x.save();
        x.day(0, 1, 1);
        x.date(0, 0);
        x.eventDay(0, 0, 0);
        x.offset(0, 0);
        x.offsetAgain(0, 0);
        x.toLocal(0, 0);
        x.instants(0, 0);
        x.instantsAgain(0, 0);
        x.cause(0, 0);
        x.toInstant(0, 0, 0);
        x.convert(0, 0, 0, 0);
        x.dayLength(0, 0);
        x.account(0, 0, 0);
        x.next(0, 0);
        x.clash(0, 0);
        x.agenda(0, 0);
        x.drift(0, 0);
        x.free(0, 9, 1);
        Told.all(x);
        Due.same("count(4)", x.count(4), 6);
    }

    private static void callsThatThrow() {
        Due.sentence(CHANGES, "that throws no exception");
        ZoneCompiler x = small();
        Due.thrown("addZone", Due.ARGUMENT, () -> x.addZone(841));
        Due.thrown("changeBase", Due.ARGUMENT, () -> x.changeBase(0, 0, 841));
        Due.thrown("addRule", Due.ARGUMENT, () -> x.addRule(0, 0, 1, 1, 0, 121));
        Due.thrown("dropRule", Due.INDEX, () -> x.dropRule(0, 1));
        Due.thrown("addMeeting", Due.ARGUMENT, () -> x.addMeeting(0, 0, 0, 0, 0, 1));
        Due.thrown("recur", Due.ARGUMENT, () -> x.recur(0, 0, 0, 0));
        Due.thrown("cancel", Due.INDEX, () -> x.cancel(0, 3));
        Due.thrown("shift", Due.ARGUMENT, () -> x.shift(0, 0, 1441));
        Due.thrown("run of no text", Due.ARGUMENT, () -> Given.ran(x, "zone:0"));
        Due.thrown("run of what throws", Due.STATE, () -> Given.ran(x, "zone:0;cancel:0,3;"));
        Due.same("count(4)", x.count(4), 6);
        Due.same("undo of the change ahead of them", x.undo(), 5);
        Due.same("it is not cancelled", x.occurrence(0, 2, 3), 0);
    }

    private static void theLatestEight() {
        Due.sentence(CHANGES, "The latest 8 of them can be undone");
        ZoneCompiler x = Given.meeting(5, 40);
        for (int i = 1; i <= 6; i++) {
            x.shift(0, i, i);
        }
        Due.same("8 changes", x.count(4), 8);
        Due.row("undo", i -> x.undo(), 7, 6, 5, 4, 3, 2, 1, 0);
        Due.same("all are undone", x.count(0), 0);
        Due.thrown("one more", Due.STATE, x::undo);
        ZoneCompiler y = Given.meeting(5, 40);
        for (int i = 1; i <= 7; i++) {
            y.shift(0, i, i);
        }
        Due.same("9 changes", y.count(4), 8);
        Due.row("undo", i -> y.undo(), 7, 6, 5, 4, 3, 2, 1, 0);
        Due.same("the first one is not undone", y.count(0), 1);
        Due.same("the second one is", y.count(1), 0);
        Due.thrown("one more", Due.STATE, y::undo);
    }

    private static void aRound() {
        Due.sentence(CHANGES, "The latest 8 of them: also of many");
        for (int many = 1; many <= 40; many++) {
            ZoneCompiler x = Given.meeting(5, 40);
            for (int i = 1; i <= many; i++) {
                x.shift(0, 0, i);
            }
            int left = Math.min(many + 2, 8);
            Due.same("the changes", x.count(4), left);
            for (int i = 1; i <= Math.min(many, 8); i++) {
                Due.same("undo", x.undo(), left - i);
                Due.same("the shift", x.occurrence(0, 0, 2), many - i);
            }
        }
    }

    private static void theLatestFirst() {
        Due.sentence(CHANGES, "the latest first");
        ZoneCompiler x = small();
        x.undo();
        Due.same("cancel", x.occurrence(0, 2, 3), 0);
        Due.same("not shift", x.occurrence(0, 1, 2), 15);
        x.undo();
        Due.same("shift", x.occurrence(0, 1, 2), 0);
        Due.same("not addMeeting", x.count(1), 1);
        x.undo();
        Due.same("addMeeting", x.count(1), 0);
        Due.same("not changeBase", x.zone(0, 2), 1);
        x.undo();
        Due.same("changeBase", x.zone(0, 2), 0);
        Due.same("not addRule", x.zone(0, 1), 1);
        x.undo();
        Due.same("addRule", x.zone(0, 1), 0);
        Due.same("not addZone", x.count(0), 1);
        x.undo();
        Due.same("addZone", x.count(0), 0);
    }

    private static void changesBehindUndo() {
        Due.sentence("Promise 39", "Undoes the latest change that can be undone");
        ZoneCompiler x = Given.meeting(5, 40);
        for (int i = 1; i <= 8; i++) {
            x.shift(0, 0, i);
        }
        x.undo();
        x.undo();
        x.shift(0, 0, 100);
        Due.same("changes", x.count(4), 7);
        x.undo();
        Due.same("the one behind undo", x.occurrence(0, 0, 2), 6);
        x.undo();
        Due.same("then the one ahead of it", x.occurrence(0, 0, 2), 5);
        Due.thrown("a run that throws", Due.STATE, () -> Given.ran(x, "cancel:0,0;drop:0,0;"));
        x.undo();
        Due.same("then the next one", x.occurrence(0, 0, 2), 4);
    }

    private static void theBufferStays() {
        Due.sentence(CHANGES, "The buffer .. do not go back");
        ZoneCompiler x = new ZoneCompiler();
        Given.put(x, "zone:");
        x.addZone(5);
        Given.put(x, "7;");
        x.undo();
        Due.same("the characters", x.count(5), 7);
        Due.same("the text", x.run(), 1);
        Due.same("the base", x.zone(0, 0), 7);
        x.undo();
        Due.same("what was run does not come back", x.count(5), 0);
    }

    private static void theErrorPositionStays() {
        Due.sentence(CHANGES, "the error position .. do not go back");
        ZoneCompiler x = new ZoneCompiler();
        x.addZone(5);
        Due.thrown("run", Due.ARGUMENT, () -> Given.ran(x, "zone?"));
        x.undo();
        Due.same("errorPosition()", x.errorPosition(), 4);
        Given.ran(x, "zone:1;");
        x.undo();
        Due.same("errorPosition() behind a text without error", x.errorPosition(), -1);
    }

    private static void theWrittenTextStays() {
        Due.sentence(CHANGES, "the written text .. do not go back");
        ZoneCompiler x = Given.zone(0);
        Given.january(x, 10, 0, 30);
        Given.january(x, 11, 0, 5);
        x.write(0, 0);
        x.shift(x.addMeeting(0, 0, 0, 1, 0, 1), 0, 1);
        int length = x.write(0, 1);
        for (int i = 0; i < 5; i++) {
            x.undo();
        }
        Due.alike("the text", Given.written(x, length), "2000,2000,1,11,0,i,5");
        Due.thrown("its end", Due.INDEX, () -> x.character(length));
    }

    private static void whatWasSavedStays() {
        Due.sentence(CHANGES, "what was saved do not go back");
        ZoneCompiler x = Given.zone(1);
        x.save();
        x.addZone(2);
        x.save();
        x.undo();
        x.undo();
        Due.same("restore()", x.restore(), 2);
        Due.same("the base", x.zone(1, 0), 2);
    }

    private static void noneToUndo() {
        Due.sentence("Promise 39", "Throws IllegalStateException if there is none");
        ZoneCompiler x = new ZoneCompiler();
        Due.thrown("of a new object", Due.STATE, x::undo);
        x.addZone(0);
        Due.same("of one change", x.undo(), 0);
        Due.thrown("of no change more", Due.STATE, x::undo);
        Due.same("the changes", x.count(4), 0);
    }

    private static void saved() {
        Due.sentence("Promise 40", "Saves the zones and meetings .. Returns the number of zones");
        ZoneCompiler x = small();
        Due.same("save()", x.save(), 1);
        String before = Told.book(x);
        x.dropRule(0, 0);
        x.changeBase(0, 21, 0);
        x.recur(0, 2, 1, 0);
        x.addZone(0);
        x.addMeeting(1, 0, 0, 1, 0, 1);
        Due.same("restore()", x.restore(), 1);
        Due.alike("what there is", Told.book(x), before);
        Due.row("save() of so many zones", i -> {
            x.addZone(0);
            return x.save();
        }, 2, 3, 4, 5, 6);
    }

    private static void savedInPlace() {
        Due.sentence("Promise 40", "in place of what was saved before");
        ZoneCompiler x = small();
        x.addZone(5);
        Due.same("save() of two zones", x.save(), 2);
        x.undo();
        x.undo();
        Due.same("save() of one zone", x.save(), 1);
        String before = Told.book(x);
        x.cancel(0, 0);
        Due.same("restore()", x.restore(), 1);
        Due.alike("what there is", Told.book(x), before);
    }

    private static void savedOfNothing() {
        Due.sentence("Promise 40", "Returns the number of zones: also 0");
        ZoneCompiler x = new ZoneCompiler();
        Due.same("save()", x.save(), 0);
        x.addZone(1);
        x.addMeeting(0, 0, 0, 1, 0, 1);
        Due.same("restore()", x.restore(), 0);
        Due.row("count", x::count, 0, 0, 0, 0, 0, 0);
    }

    private static void staysSaved() {
        Due.sentence("Promise 41", "Restores what was saved, which stays saved");
        ZoneCompiler x = small();
        x.save();
        String before = Told.book(x);
        for (int i = 0; i < 3; i++) {
            x.cancel(0, i);
            x.shift(0, i, 9);
            x.dropRule(0, 0);
            Due.same("restore()", x.restore(), 1);
            Due.alike("what there is", Told.book(x), before);
        }
        Due.same("restore() twice", x.restore(), 1);
        Due.alike("what there is", Told.book(x), before);
    }

    private static void nothingCanBeUndone() {
        Due.sentence("Promise 41", "Nothing can be undone then");
        ZoneCompiler x = small();
        x.save();
        Due.same("behind save it can", x.count(4), 6);
        x.restore();
        Due.same("behind restore it can not", x.count(4), 0);
        Due.thrown("undo()", Due.STATE, x::undo);
        x.addZone(7);
        Due.same("the change behind it can", x.undo(), 0);
        Due.same("count(0)", x.count(0), 1);
        Due.thrown("undo()", Due.STATE, x::undo);
    }

    private static void nothingWasSaved() {
        Due.sentence("Promise 41", "Throws IllegalStateException if nothing was saved");
        ZoneCompiler x = small();
        String before = Told.all(x);
        Due.thrown("restore()", Due.STATE, x::restore);
        Due.alike("what there is", Told.all(x), before);
        x.save();
        Due.thrown("behind save()", null, x::restore);
    }

    private static void restoreLeavesTheRest() {
        Due.sentence("Promise 41", "Restores what was saved: the zones and meetings alone");
        ZoneCompiler x = small();
        x.save();
        Due.thrown("run", Due.ARGUMENT, () -> Given.ran(x, "zone!"));
        Given.put(x, "zone:7;");
        int length = x.write(0, 0);
        x.restore();
        Due.same("the error position", x.errorPosition(), 4);
        Due.same("the buffer", x.count(5), 7);
        Due.alike("the written text", Given.written(x, length), "2000,2000,1,10,0,i,30");
        Due.same("the text in the buffer", x.run(), 1);
    }

    private static void zonesInThePlaceOfOthers() {
        Due.sentence("Promises 39 to 41", "Undoes .. Saves .. Restores: also a zone in whose place another one came");
        ZoneCompiler x = Given.zone(60);
        Given.january(x, 10, 0, 30);
        x.changeBase(0, 20, 90);
        x.save();
        String before = Told.book(x);
        for (int i = 0; i < 3; i++) {
            x.undo();
        }
        x.addZone(-5);
        Due.row("zone(0, what) of a new zone", what -> x.zone(0, what), -5, 0, 0, 0, 0, 0, -5, -5, -5);
        Given.january(x, 11, 1, 40);
        x.changeBase(0, 21, 91);
        x.restore();
        Due.alike("what there is", Told.book(x), before);
        ZoneCompiler y = new ZoneCompiler();
        y.save();
        Given.ran(y, "zone:60;rule:0,2000,2031,1,1,0,w,60;base:0,5,0;");
        Due.row("zone(0, what)", what -> y.zone(0, what), 60, 1, 1);
        y.undo();
        y.addZone(7);
        Due.row("zone(0, what) behind undo", what -> y.zone(0, what), 7, 0, 0, 0, 0, 0, 7, 7, 7);
        Given.january(y, 1, 0, 9);
        y.changeBase(0, 9, 9);
        y.restore();
        y.addZone(8);
        Due.row("zone(0, what) behind restore", what -> y.zone(0, what), 8, 0, 0, 0, 0, 0, 8, 8, 8);
    }

    private static void meetingsInThePlaceOfOthers() {
        Due.sentence("Promises 39 to 41",
                "Undoes .. Saves .. Restores: also a meeting in whose place another one came");
        ZoneCompiler x = Given.zone(60);
        x.addZone(30);
        x.addMeeting(0, 5, 600, 60, 0, 3);
        x.recur(0, 1, 2, 5);
        x.cancel(0, 1);
        x.shift(0, 2, 9);
        x.save();
        String before = Told.book(x);
        for (int i = 0; i < 4; i++) {
            x.undo();
        }
        Due.thrown("meeting(0, 0)", Due.INDEX, () -> x.meeting(0, 0));
        Due.thrown("cancel(0, 0)", Due.INDEX, () -> x.cancel(0, 0));
        Due.thrown("shift(0, 0, 0)", Due.INDEX, () -> x.shift(0, 0, 0));
        Due.thrown("occurrence(0, 0, 0)", Due.INDEX, () -> x.occurrence(0, 0, 0));
        x.addMeeting(1, 6, 601, 61, 1, 4);
        Due.row("a new meeting", what -> x.meeting(0, what), 1, 6, 601, 61, 1, 0, 1, 0, 4, 4);
        x.recur(0, 2, 7, 0);
        x.cancel(0, 2);
        x.restore();
        Due.alike("what there is", Told.book(x), before);
        x.recur(0, 0, 60, 0);
        x.undo();
        Due.alike("what there is behind recur", Told.book(x), before);
    }

    private static void toldAheadOfIt() {
        Due.sentence("Promises 39 to 41",
                "Undoes .. Restores: of the last zone, meeting and occurrence, told ahead of it");
        ZoneCompiler x = Given.full();
        x.undo();
        x.addMeeting(5, 40, 9, 1, 0, 40);
        x.save();
        int[] due = {1440 * 79 + 9, 0, 0, 1, 1440 * 79 + 9 - 10};
        Due.row("occurrence(9, 39, ..)", i -> x.occurrence(9, 39, i + 1), due);
        x.shift(9, 39, 1);
        Due.same("the shift", x.occurrence(9, 39, 5), due[4] + 1);
        x.undo();
        Due.row("behind undo", i -> x.occurrence(9, 39, i + 1), due);
        x.dropRule(5, 7);
        Due.same("by other rules", x.occurrence(9, 39, 5), due[4] + 1);
        x.undo();
        Due.row("behind undo", i -> x.occurrence(9, 39, i + 1), due);
        x.dropRule(5, 7);
        x.recur(9, 0, 2, 0);
        Due.same("in another way", x.occurrence(9, 39, 5), 1440 * 118 + 9 - 9);
        x.restore();
        Due.row("behind restore", i -> x.occurrence(9, 39, i + 1), due);
        Due.same("the last offset", x.zone(5, 6), 10);
    }

    private static void ofAllThereCanBe() {
        Due.sentence("Promises 39 to 41", "Undoes .. Saves .. Restores: as many zones and meetings as there can be");
        String before = Told.book(Given.full());
        ZoneCompiler x = Given.full();
        x.shift(9, 0, 5);
        x.cancel(9, 0);
        x.dropRule(5, 7);
        Due.row("undo", i -> x.undo(), 7, 6, 5);
        Due.alike("what there is behind undo", Told.book(x), before);
        ZoneCompiler y = Given.full();
        Due.same("save()", y.save(), 6);
        y.cancel(0, 0);
        y.cancel(9, 0);
        y.dropRule(5, 0);
        Due.same("restore()", y.restore(), 6);
        Due.alike("what there is behind restore", Told.book(y), before);
        ZoneCompiler z = Given.full();
        Due.thrown("run", Due.STATE, () -> Given.ran(z, "cancel:9,0;cancel:0,0;drop:5,7;drop:5,0;cancel:10,0;"));
        Due.alike("what there is behind run", Told.book(z), before);
        ZoneCompiler w = Given.full();
        Due.range("zone(zone, 0)", Due.INDEX, 0, 5, zone -> w.zone(zone, 0));
        Due.range("dayLength(zone, 0)", Due.INDEX, 0, 5, zone -> w.dayLength(zone, 0));
        Due.range("rule(5, rule, 0)", Due.INDEX, 0, 7, rule -> w.rule(5, rule, 0));
        Due.range("meeting(meeting, 0)", Due.INDEX, 0, 9, meeting -> w.meeting(meeting, 0));
        Due.range("cancel(meeting, 0)", Due.INDEX, 0, 9, meeting -> w.cancel(meeting, 0));
        Due.range("occurrence(meeting, 0, 0)", Due.INDEX, 0, 9, meeting -> w.occurrence(meeting, 0, 0));
        Due.range("clash(0, meeting)", Due.INDEX, 0, 9, meeting -> w.clash(0, meeting));
        Due.range("drift(meeting, 5)", Due.INDEX, 0, 9, meeting -> w.drift(meeting, 5));
    }

    private static void counts() {
        Due.sentence("Promise 42", "Throws IllegalArgumentException if what is not 0 to 5");
        Due.range("count(what)", Due.ARGUMENT, 0, 5, what -> small().count(what));
        Due.sentence("Promise 42", "0 the zones; .. 5 the characters in the buffer");
        ZoneCompiler x = small();
        x.append(0x21212100);
        Due.row("count", x::count, 1, 1, 3, 2, 6, 3);
        x.addMeeting(0, 11687, 1439, 1, 0, 40);
        Due.row("count", x::count, 1, 2, 4, 3, 7, 3);
        x.shift(1, 0, 1);
        Due.row("count", x::count, 1, 2, 4, 2, 8, 3);
        x.recur(1, 1, 1, 1);
        Due.row("count", x::count, 1, 2, 3, 2, 8, 3);
        Due.sentence("Promise 42", "as many as there can be");
        ZoneCompiler full = new ZoneCompiler();
        for (int i = 0; i < 6; i++) {
            full.addZone(i);
        }
        for (int i = 0; i < 10; i++) {
            full.addMeeting(5, 0, 0, 1, 0, 40);
        }
        for (int i = 0; i < 15; i++) {
            full.append(0x21212121);
        }
        Due.row("count", full::count, 6, 10, 400, 400, 8, 60);
    }
}
