/** Objects and texts that tests begin with. */
final class Given {

    /** March 26 and October 29, 2000, when summer time begins and ends in zone 0 of europe(). */
    static final int SPRING = 85;
    static final int AUTUMN = 302;

    private Given() {
    }

    /** Summer time from 01:00 to 01:00 by the clock of the instants: base 60, saving 60. */
    static ZoneCompiler europe() {
        ZoneCompiler x = zone(60);
        x.addRule(0, 31, 3, 506, 602, 60);
        x.addRule(0, 31, 10, 506, 602, 0);
        return x;
    }

    static ZoneCompiler zone(int base) {
        ZoneCompiler x = new ZoneCompiler();
        x.addZone(base);
        return x;
    }

    /** A zone of the base 0, with a meeting of 60 minutes at 00:00. */
    static ZoneCompiler meeting(int day, int many) {
        ZoneCompiler x = zone(0);
        x.addMeeting(0, day, 0, 60, 0, many);
        return x;
    }

    /** As many zones and meetings as there can be, and in the last zone as many rules and changes. */
    static ZoneCompiler full() {
        ZoneCompiler x = new ZoneCompiler();
        for (int i = 0; i < 6; i++) {
            x.addZone(i);
        }
        for (int i = 0; i < 8; i++) {
            x.addRule(5, 0, 1, 2 + i, 2, i);
        }
        for (int i = 0; i < 4; i++) {
            x.changeBase(5, 20 + i, i);
        }
        for (int i = 0; i < 10; i++) {
            x.addMeeting(5, 40, i, 1, 0, 1);
        }
        return x;
    }

    /** A rule of 2000 alone, on a day of January, by the clock of the instants. */
    static void january(ZoneCompiler x, int day, int minute, int saving) {
        x.addRule(0, 0, 1, day, 10 * minute + 2, saving);
    }

    static ZoneCompiler put(ZoneCompiler x, String text) {
        for (int i = 0; i < text.length(); i++) {
            x.append(text.charAt(i));
        }
        return x;
    }

    static int ran(ZoneCompiler x, String text) {
        return put(x, text).run();
    }

    static String written(ZoneCompiler x, int length) {
        StringBuilder text = new StringBuilder();
        for (int i = 0; i < length; i++) {
            text.append(x.character(i));
        }
        return text.toString();
    }
}
