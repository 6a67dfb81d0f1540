import java.util.regex.Matcher;
import java.util.regex.Pattern;

/** The sentences of the document about the buffer, texts, their errors and written rules: inside and outside. */
public final class TextEdgeTest {

    private static final String TEXTS = "Texts";
    private static final String NUMBER = "(?:0|[1-9][0-9]{0,4})";
    private static final String DATE = "(?:" + NUMBER + "|[1-4]x[0-6]|l[0-6]|[0-6]>(?:0|[1-9][0-9]?))";
    private static final String COMMAND =
            "(?:zone:-?N;|base:N,N,-?N;|rule:N,N,N,N,D,N,[wbi],N;|drop:N,N;|cancel:N,N;)"
                    .replace("N", NUMBER).replace("D", DATE);
    private static final Pattern TEXT = Pattern.compile(COMMAND + "+");
    private static final Pattern WORDS = Pattern.compile("(?:^|;)([a-z]*)");
    private static final Pattern WORD = Pattern.compile("zone|base|rule|drop|cancel");

    private TextEdgeTest() {
    }

    public static void main(String[] args) {
        sixtyCharacters();
        fourBytes();
        bytesThatAreZero();
        bytesOutOfRange();
        emptyAfterwards();
        numberOfCommands();
        oneOrMoreCommands();
        signsBetween();
        numbersOfItems();
        digits();
        leadingZeros();
        minusSigns();
        minusZero();
        yearsOfTexts();
        datesThatAreNumbers();
        weekdaysOfTexts();
        lastWeekdaysOfTexts();
        weekdaysBehindDays();
        clocksOfTexts();
        otherNumbers();
        endsTooEarly();
        wordsThatAreNone();
        eachCharacterBehindEachBeginning();
        commandsThatThrow();
        noneHasAnEffect();
        errorPositions();
        writtenRules();
        writtenInItsPlace();
        charactersThatAreNot();
        Due.end();
    }

    /** The error position of a text that is none. */
    private static void wrong(String text, int position) {
        ZoneCompiler x = Given.zone(0);
        Due.thrown("run of " + text, Due.ARGUMENT, () -> Given.ran(x, text));
        Due.same("errorPosition() of " + text, x.errorPosition(), position);
    }

    /** A text whose last command throws, behind others that do not. */
    private static void refused(String text, int position) {
        ZoneCompiler x = Given.meeting(11686, 3);
        Due.thrown("run of " + text, Due.STATE, () -> Given.ran(x, text));
        Due.same("errorPosition() of " + text, x.errorPosition(), position);
    }

    private static ZoneCompiler right(String text) {
        ZoneCompiler x = Given.meeting(11686, 3);
        Due.thrown("run of " + text, null, () -> Given.ran(x, text));
        Due.same("errorPosition() of " + text, x.errorPosition(), -1);
        return x;
    }

    private static void sixtyCharacters() {
        Due.sentence(TEXTS, "A buffer holds at most 60 characters");
        ZoneCompiler x = new ZoneCompiler();
        for (int i = 1; i <= 14; i++) {
            Due.same("append", x.append(0x7a7a7a7a), 4 * i);
        }
        Due.same("57 characters", x.append('a'), 57);
        Due.thrown("61 characters", Due.STATE, () -> x.append(0x21212121));
        Due.same("nothing is appended then", x.count(5), 57);
        Due.same("60 characters", x.append(0x212121), 60);
        Due.thrown("one more", Due.STATE, () -> x.append('!'));
        Due.same("none more", x.append(0), 60);
        Due.thrown("a byte that is none comes first", Due.ARGUMENT, () -> x.append(32));
        ZoneCompiler y = Given.zone(0);
        Due.same("a text of 60 characters", Given.ran(y,
                "base:0,11111,100;base:0,1111,500;base:0,1,500;zone:0;zone:0;"), 5);
    }

    private static void fourBytes() {
        Due.sentence("Promise 34", "from the most significant one to the least significant one");
        ZoneCompiler x = new ZoneCompiler();
        Due.row("append", i -> x.append(i == 0 ? 0x7a6f6e65 : 0x3a2d313b), 4, 8);
        x.run();
        Due.same("zone:-1;", x.zone(0, 0), -1);
    }

    private static void bytesThatAreZero() {
        Due.sentence("Promise 34", "bytes that are 0 are skipped");
        ZoneCompiler x = new ZoneCompiler();
        int[] packed = {0, 'z' << 24, 'o' << 16, 'n' << 8, 'e', ':' << 24 | '5', '0' << 16 | ';' << 8, 0};
        Due.row("append", i -> x.append(packed[i]), 0, 1, 2, 3, 4, 6, 8, 8);
        Due.same("they are no characters", x.run(), 1);
        Due.same("zone:50;", x.zone(0, 0), 50);
    }

    private static void bytesOutOfRange() {
        Due.sentence("Promise 34", "Throws IllegalArgumentException if a byte that is not 0 is not from 33 to 126");
        for (int place = 0; place <= 24; place += 8) {
            int at = place;
            Due.inside("append at " + place, letter -> new ZoneCompiler().append(letter << at), 0, 33, 126);
            Due.outside("append at " + place, Due.ARGUMENT, letter -> new ZoneCompiler().append(letter << at),
                    1, 32, 127, 128, 161, 255);
        }
        ZoneCompiler x = new ZoneCompiler();
        Due.thrown("a last byte", Due.ARGUMENT, () -> x.append(0x61616120));
        Due.same("nothing is appended", x.count(5), 0);
    }

    private static void emptyAfterwards() {
        Due.sentence("Promise 35", "The buffer is empty afterwards, also if an exception is thrown");
        ZoneCompiler x = new ZoneCompiler();
        Given.ran(x, "zone:0;");
        Due.same("behind a text", x.count(5), 0);
        Due.thrown("run of nothing", Due.ARGUMENT, x::run);
        Due.thrown("no text", Due.ARGUMENT, () -> Given.ran(x, "zone:"));
        Due.same("behind no text", x.count(5), 0);
        Due.thrown("no zone", Due.STATE, () -> Given.ran(x, "drop:1,1;"));
        Due.same("behind a text that throws", x.count(5), 0);
        Due.same("nothing of them is left", Given.ran(x, "zone:1;"), 1);
    }

    private static void numberOfCommands() {
        Due.sentence("Promise 35", "Returns the number of commands");
        Due.same("one", Given.ran(new ZoneCompiler(), "zone:0;"), 1);
        Due.same("six", Given.ran(new ZoneCompiler(), "zone:0;zone:0;zone:0;zone:0;zone:0;zone:0;"), 6);
        Due.same("of two kinds", Given.ran(Given.meeting(0, 1), "cancel:0,0;zone:0;cancel:0,0;zone:0;cancel:0,0;"), 5);
        ZoneCompiler x = Given.zone(0);
        for (int i = 0; i < 8; i++) {
            Given.january(x, 1 + i, 0, i);
        }
        Due.same("as long as there can be", Given.ran(x,
                "drop:0,0;drop:0,0;drop:0,0;drop:0,0;drop:0,0;zone:0;zone:0;"), 7);
        Due.same("the rules", x.zone(0, 1), 3);
    }

    private static void oneOrMoreCommands() {
        Due.sentence(TEXTS, "A text consists of one or more commands");
        wrong("", 0);
        right("zone:1;");
        right("zone:1;zone:2;");
        wrong("zone:1;;", 7);
        wrong(";zone:1;", 0);
        wrong("zone:1;zone", 11);
        Due.sentence(TEXTS, "one or more commands: as many as 60 characters hold");
        refused("zone:0;zone:0;zone:0;zone:0;zone:0;zone:0;zone:0;zone:0;", 35);
        wrong("zone:0;zone:0;zone:0;zone:0;zone:0;zone:0;zone:0;zone:0;zone", 60);
        wrong("zone:0;zone:0;zone:0;zone:0;zone:0;zone:0;zone:0;zone:0;zon", 56);
        wrong("zone:0;zone:0;zone:0;zone:0;zone:0;zone:0;zone:0;zone:0;:", 56);
    }

    private static void signsBetween() {
        Due.sentence(TEXTS, "a word, a colon, items with commas between them, and a semicolon");
        wrong("zone60;", 4);
        wrong("zone;", 4);
        wrong("zone::6;", 5);
        wrong("zone:6", 6);
        wrong("zone:6:", 6);
        wrong("zone:6,", 6);
        wrong("base:0;", 6);
        wrong("base:0:0", 6);
        wrong("base:0,,", 7);
        wrong("drop:,0;", 5);
        wrong("drop:0,0,", 8);
        wrong("drop:0,0:", 8);
        wrong("drop:0,0;,", 9);
    }

    private static void numbersOfItems() {
        Due.sentence(TEXTS, "zone with a base; base with a zone, a day and a base; rule with ..; drop ..; cancel ..");
        right("zone:0;");
        wrong("zone:;", 5);
        wrong("zone:0,0;", 6);
        right("base:0,0,0;");
        wrong("base:0,0;", 8);
        wrong("base:0,0,0,0;", 10);
        right("rule:0,2000,2000,1,1,0,w,0;");
        wrong("rule:0,2000,2000,1,1,0,w;", 24);
        wrong("rule:0,2000,2000,1,1,0,w,0,0;", 26);
        right("zone:0;rule:1,2000,2000,1,1,0,w,0;drop:1,0;");
        wrong("drop:0;", 6);
        wrong("drop:0,0,0;", 8);
        right("cancel:0,0;");
        wrong("cancel:0;", 8);
        wrong("cancel:0,0,0;", 10);
    }

    private static void digits() {
        Due.sentence(TEXTS, "An item is a number of 1 to 5 digits");
        wrong("zone:;", 5);
        refused("zone:99999;", 0);
        wrong("zone:100000;", 10);
        wrong("zone:-;", 6);
        refused("zone:-99999;", 0);
        wrong("zone:-100000;", 11);
        refused("base:99999,0,0;", 0);
        wrong("base:100000,0,0;", 10);
        right("base:0,11687,0;");
        refused("base:0,99999,0;", 0);
        wrong("base:0,100000,0;", 12);
        refused("rule:0,2000,2000,1,99999,0,w,0;", 0);
        wrong("rule:0,2000,2000,1,100000,0,w,0;", 24);
        refused("rule:0,2000,2000,1,1,99999,w,0;", 0);
        wrong("rule:0,2000,2000,1,1,100000,w,0;", 26);
        refused("cancel:0,99999;", 0);
        wrong("cancel:0,100000;", 14);
    }

    private static void leadingZeros() {
        Due.sentence(TEXTS, "the first of which is not 0 unless it is the only one");
        right("zone:0;");
        wrong("zone:00;", 6);
        wrong("zone:01;", 6);
        wrong("zone:-01;", 7);
        wrong("base:00,0,0;", 6);
        wrong("base:0,05,0;", 8);
        wrong("rule:0,02000,2000,1,1,0,w,0;", 8);
        wrong("rule:0,2000,2000,01,1,0,w,0;", 18);
        wrong("rule:0,2000,2000,1,01,0,w,0;", 20);
        wrong("rule:0,2000,2000,1,1,060,w,0;", 22);
        wrong("rule:0,2000,2000,1,1,0,w,060;", 26);
        wrong("drop:0,00;", 8);
        wrong("cancel:00", 8);
        right("zone:10;zone:100;");
    }

    private static void minusSigns() {
        Due.sentence(TEXTS, "a base can have a minus sign ahead of it");
        ZoneCompiler x = right("zone:-720;base:1,0,-1;");
        Due.same("the base", x.zone(1, 0), -720);
        Due.same("the base of the change", x.zone(1, 6), -1);
        wrong("zone:--1;", 6);
        wrong("zone:1-;", 6);
        wrong("zone:+1;", 5);
        wrong("base:-0,0,0;", 5);
        wrong("base:0,-0,0;", 7);
        wrong("base:0,0,--1;", 10);
        wrong("rule:-0", 5);
        wrong("rule:0,-2000", 7);
        wrong("rule:0,2000,-2000", 12);
        wrong("rule:0,2000,2000,-1", 17);
        wrong("rule:0,2000,2000,1,-1", 19);
        wrong("rule:0,2000,2000,1,1,-1", 21);
        wrong("rule:0,2000,2000,1,1,1,-", 23);
        wrong("rule:0,2000,2000,1,1,1,w,-1", 25);
        wrong("drop:-0", 5);
        wrong("drop:0,-0", 7);
        wrong("cancel:-0", 7);
        wrong("cancel:0,-0", 9);
    }

    private static void minusZero() {
        Due.sentence("In doubt", "-0 is the base 0");
        ZoneCompiler x = right("zone:-0;base:1,5,-0;");
        Due.same("the base", x.zone(1, 0), 0);
        Due.same("the base of the change", x.zone(1, 6), 0);
        wrong("zone:-00;", 7);
    }

    private static String rule(String first, String last, String date) {
        return new StringBuilder("rule:0,").append(first).append(',').append(last).append(",1,").append(date)
                .append(",0,w,0;").toString();
    }

    private static void yearsOfTexts() {
        Due.sentence(TEXTS, "Years are from 2000 to 2031 here");
        ZoneCompiler x = right("rule:0,2000,2031,1,1,0,w,0;rule:0,2031,2031,1,1,0,w,0;");
        Due.row("the first year", rule -> x.rule(0, rule, 0), 0, 31);
        Due.row("the last year", rule -> x.rule(0, rule, 1), 31, 31);
        refused(rule("1999", "2000", "1"), 0);
        refused(rule("2000", "2032", "1"), 0);
        refused(rule("2032", "2032", "1"), 0);
        refused(rule("0", "31", "1"), 0);
        refused(rule("1999", "2100", "1"), 0);
        refused(rule("2000", "2131", "1"), 0);
        refused(rule("2001", "2000", "1"), 0);
        refused(rule("2000", "99999", "1"), 0);
        Due.same("the numbers of like years", right(rule("2010", "2010", "1")).rule(0, 0, 1), 10);
    }

    private static void date(String date, int due) {
        Due.same("the date " + date, right(rule("2000", "2000", date)).rule(0, 0, 3), due);
    }

    private static void noDate(String... dates) {
        for (String date : dates) {
            refused(rule("2000", "2000", date), 0);
        }
    }

    private static void datesThatAreNumbers() {
        Due.sentence("In doubt",
                "a date that is a number is a day of the month, so that 32 and more, as 0, .. are no dates");
        date("1", 1);
        date("31", 31);
        noDate("0", "32", "99", "100", "106", "506", "1010", "1316", "99999");
    }

    private static void weekdaysOfTexts() {
        Due.sentence(TEXTS, "a digit from 1 to 4, the letter x and a digit from 0 to 6 for the n-th weekday");
        date("1x0", 100);
        date("1x6", 106);
        date("4x0", 400);
        date("4x6", 406);
        wrong("rule:0,2000,2000,1,0x0", 20);
        wrong("rule:0,2000,2000,1,5x0", 20);
        wrong("rule:0,2000,2000,1,1x7", 21);
        wrong("rule:0,2000,2000,1,1x,", 21);
        wrong("rule:0,2000,2000,1,1x00", 22);
        wrong("rule:0,2000,2000,1,11x", 21);
        wrong("rule:0,2000,2000,1,x", 19);
        wrong("rule:0,2000,2000,1,/x1", 19);
        wrong("rule:0,2000,2000,1,ax1", 19);
        wrong("rule:0,2000,2000,1,1X", 20);
    }

    private static void lastWeekdaysOfTexts() {
        Due.sentence(TEXTS, "the letter l and a digit from 0 to 6 for the last weekday");
        date("l0", 500);
        date("l6", 506);
        wrong("rule:0,2000,2000,1,l7", 20);
        wrong("rule:0,2000,2000,1,l,", 20);
        wrong("rule:0,2000,2000,1,l-", 20);
        wrong("rule:0,2000,2000,1,l00", 21);
        wrong("rule:0,2000,2000,1,1l", 20);
        wrong("rule:0,2000,2000,1,L", 19);
    }

    private static void weekdaysBehindDays() {
        Due.sentence(TEXTS, "a digit from 0 to 6, the sign > and a number of 1 or 2 digits");
        date("0>1", 1010);
        date("6>1", 1016);
        date("0>31", 1310);
        date("6>31", 1316);
        wrong("rule:0,2000,2000,1,7>", 20);
        wrong("rule:0,2000,2000,1,10>", 21);
        wrong("rule:0,2000,2000,1,>", 19);
        wrong("rule:0,2000,2000,1,/>1", 19);
        wrong("rule:0,2000,2000,1,->1", 19);
        wrong("rule:0,2000,2000,1,w>1", 19);
        wrong("rule:0,2000,2000,1,6>,", 21);
        wrong("rule:0,2000,2000,1,6>-", 21);
        wrong("rule:0,2000,2000,1,6>310", 23);
        wrong("rule:0,2000,2000,1,6>01", 22);
        wrong("rule:0,2000,2000,1,6>>", 21);
        Due.sentence("In doubt", "days behind the sign that no month has, are no dates, .. an error of the command");
        noDate("0>0", "6>0", "0>32", "6>32", "6>99", "0>99");
    }

    private static void clocksOfTexts() {
        Due.sentence(TEXTS, "A clock is one of the letters w, b and i for 0, 1 and 2");
        String letters = "wbi";
        for (int clock = 0; clock <= 2; clock++) {
            String text = "rule:0,2000,2000,1,1,1439," + letters.charAt(clock) + ",0;";
            ZoneCompiler x = right(text);
            Due.same("the clock", x.rule(0, 0, 5), clock);
            Due.same("the minute", x.rule(0, 0, 4), 1439);
        }
        for (String letter : new String[] {"a", "c", "h", "j", "v", "x", "W", "B", "I", "0", ",", ";"}) {
            wrong("rule:0,2000,2000,1,1,0," + letter, 23);
        }
        wrong("rule:0,2000,2000,1,1,0,ww", 24);
    }

    private static void otherNumbers() {
        Due.sentence(TEXTS, "They do what the methods addZone, changeBase, addRule, dropRule and cancel do");
        ZoneCompiler x = right("rule:0,2000,2000,12,1,0,w,120;zone:840;");
        Due.same("the month", x.rule(0, 0, 2), 12);
        Due.same("the saving", x.rule(0, 0, 6), 120);
        Due.same("the base", x.zone(1, 0), 840);
        String[] texts = {"zone:841;", "zone:-721;", "base:1,0,0;", "base:0,11688,0;", "base:0,0,841;",
                "base:0,0,-721;",
            "rule:1,2000,2000,1,1,0,w,0;", "rule:0,2000,2000,0,1,0,w,0;", "rule:0,2000,2000,13,1,0,w,0;",
            "rule:0,2000,2000,1,1,1440,w,0;", "rule:0,2000,2000,1,1,0,w,121;", "drop:0,0;", "drop:1,0;", "cancel:1,0;",
            "cancel:0,2;"};
        for (String text : texts) {
            refused(text, 0);
        }
        right("base:0,11687,840;base:0,0,-720;cancel:0,1;");
        refused("base:0,0,0;base:0,0,0;base:0,0,0;base:0,0,0;base:0,0,0;", 44);
        refused("zone:0;zone:0;zone:0;zone:0;zone:0;zone:0;", 35);
        ZoneCompiler y = Given.zone(0);
        for (int i = 0; i < 7; i++) {
            Given.january(y, 1 + i, 0, 0);
        }
        Due.same("an eighth rule", Given.ran(y, "rule:0,2000,2000,1,1,0,w,0;"), 1);
        Due.thrown("a ninth rule", Due.STATE, () -> Given.ran(y, "rule:0,2000,2000,1,1,0,w,0;"));
    }

    private static void endsTooEarly() {
        Due.sentence(TEXTS, "or its length if it ends too early");
        String[] texts = {"zone:-60;", "base:5,11687,-720;", "rule:0,2000,2031,12,6>31,1439,w,120;",
            "rule:0,2000,2031,12,4x6,1439,b,120;", "rule:0,2000,2031,12,l6,1439,i,120;", "drop:0,11;", "cancel:9,39;"};
        for (String text : texts) {
            for (int length = text.indexOf(':'); length < text.length(); length++) {
                wrong(text.substring(0, length), length);
                wrong("zone:0;" + text.substring(0, length), 7 + length);
            }
        }
    }

    private static void wordsThatAreNone() {
        Due.sentence(TEXTS,
                "for a word that is none of these, .. that of its first letter, also if the text ends behind it");
        for (String word : new String[] {"z", "zon", "zonee", "zzone", "zones", "bas", "basf", "rul", "rules", "dro",
                "drops",
            "cance", "cancels", "cancell", "zonebase", "x", "az", "aone", "vase", "mule", "crop",
            "rancel", "zonf", "zane", "canoel"}) {
            wrong(word, 0);
            wrong(word + ":", 0);
            wrong(word + "?", 0);
            wrong("zone:1;" + word, 7);
            wrong("zone:1;" + word + ":0;", 7);
        }
        Due.sentence(TEXTS, "read as far as letters a to z go");
        wrong("zoneX", 4);
        wrong("zone{", 4);
        wrong("zone`", 4);
        wrong("zone1", 4);
        wrong("Zone:1;", 0);
        wrong("1zone:1;", 0);
        wrong("zoNe:1;", 0);
    }

    /** Texts of which each beginning is gone on with by each character: a pattern tells where it goes wrong. */
    private static void eachCharacterBehindEachBeginning() {
        Due.sentence(TEXTS, "the index of the first character with which no such text can go on");
        String[] texts = {"zone:-60;base:0,11687,-0;", "zone:0;rule:0,2000,2031,12,6>31,1439,w,120;",
            "rule:0,2000,2031,1,4x6,0,b,0;drop:12345,0;", "cancel:9,39;rule:7,2000,2031,1,l6,10,i,5;"};
        for (String text : texts) {
            for (int length = 0; length < text.length(); length++) {
                for (char letter = 33; letter <= 126; letter++) {
                    behind(text.substring(0, length) + letter);
                }
            }
        }
    }

    private static void behind(String text) {
        int due = duePosition(text);
        if (due < 0) {
            return;
        }
        wrong(text, due);
    }

    /** Answers -1 for a text that is one. */
    private static int duePosition(String text) {
        Matcher words = WORDS.matcher(text);
        int word = text.length();
        while (words.find()) {
            if (!WORD.matcher(words.group(1)).matches()) {
                word = Math.min(word, words.start(1));
            }
        }
        int length = 0;
        while (length < text.length() && canGoOn(text.substring(0, length + 1))) {
            length++;
        }
        boolean whole = length == text.length() && TEXT.matcher(text).matches();
        return whole ? -1 : Math.min(word, length);
    }

    private static boolean canGoOn(String text) {
        Matcher matcher = TEXT.matcher(text);
        return matcher.matches() || matcher.hitEnd();
    }

    private static void commandsThatThrow() {
        Due.sentence(TEXTS, "it is the index of the first letter of this command");
        refused("drop:0,0;", 0);
        refused("zone:1;drop:0,0;", 7);
        refused("zone:1;zone:2;drop:0,0;drop:5,5;", 14);
        refused("zone:1;drop:1,0;zone:999;", 7);
        refused("cancel:0,0;rule:0,1999,2000,1,1,0,w,0;", 11);
        Due.sentence(TEXTS, "If a text is like this, but ..: an error of the text comes first");
        wrong("drop:0,0;zone:1", 15);
        wrong("zone:999;zone:x", 14);
        wrong("rule:0,1999,2000,1,1,0,w,0;:", 27);
    }

    private static void noneHasAnEffect() {
        Due.sentence(TEXTS, "none of the commands has an effect");
        ZoneCompiler x = Given.europe();
        x.addMeeting(0, Given.SPRING, 150, 60, 3, 2);
        Due.thrown("run", Due.STATE, () -> Given.ran(x, "cancel:0,1;drop:0,0;base:0,0,5;zone:1;cancel:0,2;"));
        Due.same("errorPosition()", x.errorPosition(), 38);
        Due.row("zone(0, what)", what -> x.zone(0, what), 60, 2, 0, 64, 0, 64, 60, 120, 60);
        Due.row("the states", i -> x.occurrence(0, i, 3), 2, 0);
        Due.row("count", x::count, 1, 1, 2, 1, 4, 0);
        Due.thrown("no text", Due.ARGUMENT, () -> Given.ran(x, "drop:0,0;zone:1;zone:1"));
        Due.row("count", x::count, 1, 1, 2, 1, 4, 0);
        Due.same("the rules", x.zone(0, 1), 2);
        Due.same("without the last one", Given.ran(x, "cancel:0,1;drop:0,0;base:0,0,5;zone:1;"), 4);
        Due.row("count", x::count, 2, 1, 2, 1, 5, 0);
    }

    private static void errorPositions() {
        Due.sentence("Promise 36", "the position, or -1 if this text had no error or none was read");
        ZoneCompiler x = new ZoneCompiler();
        Due.same("none was read", x.errorPosition(), -1);
        Given.put(x, "zone:1;zone:");
        Due.same("none was read yet", x.errorPosition(), -1);
        Due.thrown("run", Due.ARGUMENT, x::run);
        Due.same("the text that was read most recently", x.errorPosition(), 12);
        Given.put(x, "zone:1;");
        Due.same("still the same text", x.errorPosition(), 12);
        x.run();
        Due.same("a text without error", x.errorPosition(), -1);
        Due.thrown("run", Due.STATE, () -> Given.ran(x, "zone:1;drop:0,0;"));
        Due.same("an error of a command", x.errorPosition(), 7);
        Due.thrown("run of nothing", Due.ARGUMENT, x::run);
        Due.same("an empty text", x.errorPosition(), 0);
    }

    private static void writtenRules() {
        Due.sentence("Promise 37", "Writes a rule as the items of a command behind its zone, with commas between them");
        Object[][] due = {{31, 3, 506, 1200, 60, "2000,2031,3,l6,120,w,60"}, {0, 1, 1, 1, 0, "2000,2000,1,1,0,b,0"},
            {3131, 12, 31, 14392, 120, "2031,2031,12,31,1439,i,120"}, {910, 10, 100, 90, 9, "2009,2010,10,1x0,9,w,9"},
            {1011, 9, 406, 100, 10, "2010,2011,9,4x6,10,w,10"}, {31, 1, 500, 990, 99, "2000,2031,1,l0,99,w,99"},
            {31, 1, 1010, 1000, 100, "2000,2031,1,0>1,100,w,100"}, {31, 1, 1096, 9990, 119,
            "2000,2031,1,6>9,999,w,119"},
            {31, 1, 1100, 10000, 1, "2000,2031,1,0>10,1000,w,1"}, {31, 1, 1316, 10, 20, "2000,2031,1,6>31,1,w,20"}};
        for (Object[] at : due) {
            ZoneCompiler x = Given.zone(0);
            x.addRule(0, (Integer) at[0], (Integer) at[1], (Integer) at[2], (Integer) at[3], (Integer) at[4]);
            int length = x.write(0, 0);
            String text = (String) at[5];
            Due.same("the length of " + text, length, text.length());
            Due.alike("write(0, 0)", Given.written(x, length), text);
            Due.same("it can be run", Given.ran(x, "rule:0," + text + ";"), 1);
            Due.row("its numbers", what -> x.rule(0, 1, what) - x.rule(0, 0, what), 0, 0, 0, 0, 0, 0, 0);
        }
        Due.sentence("Promise 37", "Throws IndexOutOfBoundsException if there is no such zone or rule");
        Due.range("write(0, rule)", Due.INDEX, 0, 1, rule -> Given.europe().write(0, rule));
        Due.range("write(zone, 0)", Due.INDEX, 0, 0, zone -> Given.europe().write(zone, 0));
    }

    private static void writtenInItsPlace() {
        Due.sentence("Promise 37", "in place of what was written before");
        ZoneCompiler x = Given.zone(0);
        x.addRule(0, 31, 12, 1316, 14390, 120);
        x.addRule(0, 0, 1, 1, 0, 0);
        Due.same("a long one", x.write(0, 0), 28);
        Due.same("its last character", x.character(27), '0');
        Due.same("a short one", x.write(0, 1), 19);
        Due.alike("write(0, 1)", Given.written(x, 19), "2000,2000,1,1,0,w,0");
        Due.thrown("nothing behind it", Due.INDEX, () -> x.character(19));
        Due.thrown("write of no rule", Due.INDEX, () -> x.write(0, 2));
        Due.alike("what was written stays", Given.written(x, 19), "2000,2000,1,1,0,w,0");
        x.dropRule(0, 1);
        Due.alike("it stays also without the rule", Given.written(x, 19), "2000,2000,1,1,0,w,0");
    }

    private static void charactersThatAreNot() {
        Due.sentence("Promise 38", "a character of the written text, which is empty at first");
        Due.outside("character(index)", Due.INDEX, index -> Given.europe().character(index),
                -1, 0, 1, Integer.MIN_VALUE, Integer.MAX_VALUE);
        Due.sentence("Promise 38", "Throws IndexOutOfBoundsException if there is no such index");
        ZoneCompiler x = Given.europe();
        int length = x.write(0, 0);
        Due.range("character(index)", Due.INDEX, 0, length - 1, index -> x.character(index));
        Due.same("the first character", x.character(0), '2');
        Due.same("the last character", x.character(length - 1), '0');
    }
}
