/**
 * All that an object tells of its state, as a text: to see whether a call changed something. It takes some hundred
 * calls, and an object is for 512.
 */
final class Told {

    private Told() {
    }

    static String all(ZoneCompiler x) {
        StringBuilder text = new StringBuilder("counts");
        for (int what = 0; what <= 5; what++) {
            text.append(' ').append(x.count(what));
        }
        text.append(" error ").append(x.errorPosition()).append(" written ").append(written(x));
        return text.append(book(x)).toString();
    }

    /** The zones and meetings alone, which undo and saving bring back. */
    static String book(ZoneCompiler x) {
        StringBuilder text = new StringBuilder();
        int zones = x.count(0);
        for (int zone = 0; zone < zones; zone++) {
            zone(x, zone, text);
        }
        int meetings = x.count(1);
        for (int meeting = 0; meeting < meetings; meeting++) {
            meeting(x, meeting, text);
        }
        return text.toString();
    }

    private static void zone(ZoneCompiler x, int zone, StringBuilder text) {
        text.append("\nzone");
        for (int what = 0; what <= 8; what++) {
            text.append(' ').append(x.zone(zone, what));
        }
        int rules = x.zone(zone, 1);
        for (int rule = 0; rule < rules; rule++) {
            text.append("\n rule");
            for (int what = 0; what <= 6; what++) {
                text.append(' ').append(x.rule(zone, rule, what));
            }
        }
        int transitions = x.zone(zone, 3);
        for (int i = 0; i < transitions; i++) {
            text.append("\n transition");
            for (int what = 0; what <= 4; what++) {
                text.append(' ').append(x.transition(zone, i, what));
            }
        }
        int voids = x.zone(zone, 4);
        for (int i = 0; i < voids; i++) {
            text.append("\n void");
            for (int what = 0; what <= 2; what++) {
                text.append(' ').append(x.voidEvent(zone, i, what));
            }
        }
    }

    private static void meeting(ZoneCompiler x, int meeting, StringBuilder text) {
        text.append("\nmeeting");
        for (int what = 0; what <= 9; what++) {
            text.append(' ').append(x.meeting(meeting, what));
        }
        int occurrences = x.meeting(meeting, 8);
        for (int i = 0; i < occurrences; i++) {
            text.append("\n occurrence");
            for (int what = 0; what <= 4; what++) {
                text.append(' ').append(x.occurrence(meeting, i, what));
            }
        }
    }

    private static String written(ZoneCompiler x) {
        StringBuilder text = new StringBuilder();
        try {
            for (int i = 0; i < 60; i++) {
                text.append(x.character(i));
            }
        } catch (IndexOutOfBoundsException end) {
            // The text is told up to its end.
        }
        return text.toString();
    }
}
