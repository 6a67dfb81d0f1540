import java.time.DayOfWeek;
import java.time.Duration;
import java.time.LocalDate;
import java.time.LocalDateTime;
import java.time.ZoneId;
import java.time.ZoneOffset;
import java.time.ZonedDateTime;
import java.time.temporal.ChronoUnit;
import java.time.temporal.TemporalAdjusters;
import java.time.zone.ZoneOffsetTransition;
import java.time.zone.ZoneRules;
import java.util.List;

/**
 * Zones of the world, told in commands, are compared with the rules that the Java library has for them: a judge that
 * has not read the document. Only years that have gone are taken, since later ones change with the library.
 */
public final class WorldTest {

    private static final LocalDateTime START = LocalDateTime.of(2000, 1, 1, 0, 0);
    private static final int DAY = 1440;
    /** An object answers 512 calls; the texts of a place take fewer than 100 of them, a question fewer than 10. */
    private static final int MOST_QUESTIONS = 40;

    private record Place(String name, int firstYear, int lastYear, List<String> texts) {
    }

    private static final List<Place> PLACES = List.of(
            new Place("Asia/Kolkata", 2000, 2023, List.of("zone:330;")),
            new Place("Europe/Berlin", 2000, 2023, List.of("zone:60;",
                    "rule:0,2000,2031,3,l6,60,i,60;", "rule:0,2000,2031,10,l6,60,i,0;")),
            new Place("America/New_York", 2000, 2023, List.of("zone:-300;",
                    "rule:0,2000,2006,4,1x6,120,w,60;", "rule:0,2000,2006,10,l6,120,w,0;",
                    "rule:0,2007,2031,3,2x6,120,w,60;", "rule:0,2007,2031,11,1x6,120,w,0;")),
            new Place("America/St_Johns", 2000, 2023, List.of("zone:-210;",
                    "rule:0,2000,2006,4,6>1,1,w,60;", "rule:0,2000,2006,10,l6,1,w,0;",
                    "rule:0,2007,2011,3,6>8,1,w,60;", "rule:0,2007,2010,11,6>1,1,w,0;",
                    "rule:0,2011,2031,11,6>1,120,w,0;", "rule:0,2012,2031,3,6>8,120,w,60;")),
            new Place("Europe/Moscow", 2000, 2010, List.of("zone:180;",
                    "rule:0,2000,2010,3,l6,120,b,60;", "rule:0,2000,2010,10,l6,120,b,0;")),
            new Place("Australia/Sydney", 2000, 2023, List.of("zone:600;",
                    "rule:0,2000,2000,1,1,0,w,60;", "rule:0,2000,2005,3,l6,120,b,0;",
                    "rule:0,2000,2000,8,l6,120,b,60;", "rule:0,2001,2007,10,l6,120,b,60;",
                    "rule:0,2006,2006,4,6>1,120,b,0;", "rule:0,2007,2007,3,l6,120,b,0;",
                    "rule:0,2008,2031,4,6>1,120,b,0;", "rule:0,2008,2031,10,6>1,120,b,60;")),
            new Place("Australia/Lord_Howe", 2000, 2023, List.of("zone:630;",
                    "rule:0,2000,2000,1,1,0,w,30;", "rule:0,2000,2005,3,l6,120,w,0;",
                    "rule:0,2000,2000,8,l6,120,w,30;", "rule:0,2001,2007,10,l6,120,w,30;",
                    "rule:0,2006,2006,4,6>1,120,w,0;", "rule:0,2007,2007,3,l6,120,w,0;",
                    "rule:0,2008,2031,4,6>1,120,w,0;", "rule:0,2008,2031,10,6>1,120,w,30;")),
            new Place("Pacific/Apia", 2000, 2023, List.of("zone:-660;", "base:0,4381,780;",
                    "rule:0,2010,2010,9,l6,0,w,60;", "rule:0,2011,2011,4,5>1,240,w,0;",
                    "rule:0,2011,2011,9,l5,180,w,60;", "rule:0,2012,2021,4,6>1,240,w,0;",
                    "rule:0,2012,2020,9,l6,180,w,60;")),
            new Place("America/Sao_Paulo", 2009, 2023, List.of("zone:-180;",
                    "rule:0,2008,2008,12,1,0,w,60;", "rule:0,2009,2011,2,6>15,0,w,0;",
                    "rule:0,2012,2012,2,6>22,0,w,0;", "rule:0,2013,2014,2,6>15,0,w,0;",
                    "rule:0,2015,2015,2,6>22,0,w,0;", "rule:0,2016,2019,2,6>15,0,w,0;",
                    "rule:0,2009,2017,10,6>15,0,w,60;", "rule:0,2018,2018,11,6>1,0,w,60;")));

    private static Place place;
    private static ZoneRules rules;
    private static ZoneCompiler x;
    private static int asked;

    private WorldTest() {
    }

    public static void main(String[] args) {
        Due.sentence("promises 11 to 21", "as the world's clocks go");
        for (Place each : PLACES) {
            place = each;
            rules = ZoneId.of(each.name()).getRules();
            askTransitions();
            askDays();
            askYears();
        }
        Due.sentence("promise 28", "as the Java library counts days");
        askMeetings();
        Due.end();
    }

    /** The object of the place, made anew before its calls are used up. */
    private static ZoneCompiler object() {
        if (asked % MOST_QUESTIONS == 0 || x == null) {
            x = new ZoneCompiler();
            for (String text : place.texts()) {
                putFourAtOnce(text);
                x.run();
            }
        }
        asked++;
        return x;
    }

    private static void putFourAtOnce(String text) {
        for (int i = 0; i < text.length(); i += 4) {
            int packed = 0;
            for (int j = i; j < Math.min(i + 4, text.length()); j++) {
                packed = packed << 8 | text.charAt(j);
            }
            x.append(packed);
        }
    }

    // ---- around each transition of the library

    private static void askTransitions() {
        begin();
        ZoneOffsetTransition next = rules.nextTransition(utc(LocalDate.of(place.firstYear(), 1, 2)));
        for (int i = 0; i < 100 && next != null && next.getDateTimeBefore().getYear() <= place.lastYear(); i++) {
            askAround(next);
            next = rules.nextTransition(next.getInstant());
        }
    }

    private static void askAround(ZoneOffsetTransition transition) {
        int instant = minutes(LocalDateTime.ofInstant(transition.getInstant(), ZoneOffset.UTC));
        for (int away : new int[] {-1440, -61, -60, -1, 0, 1, 59, 60, 1440}) {
            askInstant(instant + away);
        }
        int before = minutes(transition.getDateTimeBefore());
        int after = minutes(transition.getDateTimeAfter());
        for (int away : new int[] {-31, -30, -1, 0, 1, 29, 30}) {
            askLocal(before + away, transition);
            askLocal(after + away, transition);
        }
        askLocal((before + after) / 2, transition);
    }

    private static void askInstant(int instant) {
        ZoneCompiler object = object();
        int want = rules.getOffset(START.plusMinutes(instant).toInstant(ZoneOffset.UTC)).getTotalSeconds() / 60;
        String call = place.name() + " at the instant " + instant + ": ";
        Due.same(call + "offset", object.offset(0, instant), want);
        Due.same(call + "offsetAgain", object.offsetAgain(0, instant), want);
        Due.same(call + "toLocal", object.toLocal(0, instant), instant + want);
    }

    private static void askLocal(int local, ZoneOffsetTransition nearest) {
        ZoneCompiler object = object();
        String call = place.name() + " at the local time " + local + ": ";
        LocalDateTime time = START.plusMinutes(local);
        int many = rules.getValidOffsets(time).size();
        Due.same(call + "instants", object.instants(0, local), many);
        Due.same(call + "instantsAgain", object.instantsAgain(0, local), many);
        Due.same(call + "mode 0", object.toInstant(0, local, 0), early(time));
        Due.same(call + "mode 1", object.toInstant(0, local, 1), late(time));
        Due.same(call + "mode 2", object.toInstant(0, local, 2), orTransition(time));
        int cause = object.cause(0, local);
        if (many == 1) {
            Due.same(call + "cause", cause, -1);
            Due.same(call + "mode 3", object.toInstant(0, local, 3), early(time));
        } else {
            int instant = minutes(LocalDateTime.ofInstant(nearest.getInstant(), ZoneOffset.UTC));
            Due.same(call + "the instant of the cause", object.transition(0, cause, 0), instant);
            Due.thrown(call + "mode 3", Due.UNSUPPORTED, () -> object.toInstant(0, local, 3));
        }
    }

    /** In a gap the library goes on by its length, which is the offset before it. */
    private static int early(LocalDateTime time) {
        return minutesOf(ZonedDateTime.ofLocal(time, ZoneId.of(place.name()), null));
    }

    private static int late(LocalDateTime time) {
        ZoneOffsetTransition around = rules.getTransition(time);
        return around == null ? early(time) : minutes(time) - around.getOffsetAfter().getTotalSeconds() / 60;
    }

    private static int orTransition(LocalDateTime time) {
        ZoneOffsetTransition around = rules.getTransition(time);
        return around == null || around.isOverlap() ? early(time)
                : minutes(LocalDateTime.ofInstant(around.getInstant(), ZoneOffset.UTC));
    }

    // ---- days and years

    private static void askDays() {
        begin();
        for (LocalDate day = LocalDate.of(place.firstYear(), 1, 2); day.getYear() <= place.lastYear();
                day = day.plusDays(1)) {
            int number = (int) ChronoUnit.DAYS.between(START.toLocalDate(), day);
            Due.same(place.name() + ": dayLength of " + day, object().dayLength(0, number),
                    length(day, day.plusDays(1)));
        }
    }

    private static void askYears() {
        begin();
        for (int year = place.firstYear() + 1; year <= place.lastYear(); year++) {
            String call = place.name() + ": account of " + year + ", ";
            LocalDate first = LocalDate.of(year, 1, 1);
            int local = DAY * first.lengthOfYear();
            int gaps = 0;
            int folds = 0;
            ZoneOffsetTransition next = rules.nextTransition(utc(first));
            for (int i = 0; i < 10 && next != null && next.getDateTimeBefore().getYear() == year; i++) {
                int moved = (int) next.getDuration().toMinutes();
                gaps += Math.max(moved, 0);
                folds += Math.max(-moved, 0);
                next = rules.nextTransition(next.getInstant());
            }
            Due.same(call + "0", object().account(0, year - 2000, 0), length(first, first.plusYears(1)));
            Due.same(call + "1", object().account(0, year - 2000, 1), gaps);
            Due.same(call + "2", object().account(0, year - 2000, 2), folds);
            Due.same(call + "3", object().account(0, year - 2000, 3), local);
        }
    }

    private static int length(LocalDate from, LocalDate until) {
        ZoneId zone = ZoneId.of(place.name());
        return (int) Duration.between(from.atStartOfDay(zone), until.atStartOfDay(zone)).toMinutes();
    }

    // ---- meetings

    private static void askMeetings() {
        for (int first = 0; first < 1200; first += 7) {
            LocalDate day = START.toLocalDate().plusDays(first + first / 70);
            askDaily(day, first % 60 + 1);
            askWeekly(day, first % 8 + 1, first % 127 + 1);
            askMonthly(day, first % 24 + 1);
            askMonthlyByWeekday(day, first % 24 + 1);
        }
    }

    private static void askDaily(LocalDate first, int step) {
        ZoneCompiler object = meeting(first, 0, step, 0);
        for (int i = 0; i < 40; i++) {
            askDay(object, "kind 0 from " + first + " by " + step, i, first.plusDays(i * step));
        }
    }

    private static void askWeekly(LocalDate first, int step, int set) {
        ZoneCompiler object = meeting(first, 1, step, set);
        LocalDate monday = first.with(TemporalAdjusters.previousOrSame(DayOfWeek.MONDAY));
        int many = 0;
        for (LocalDate day = first; many < 40; day = day.plusDays(1)) {
            boolean inWeek = ChronoUnit.WEEKS.between(monday, day) % step == 0;
            if (inWeek && (set >> day.getDayOfWeek().getValue() - 1 & 1) != 0) {
                askDay(object, "kind 1 from " + first + " by " + step + " on " + set, many, day);
                many++;
            }
        }
    }

    private static void askMonthly(LocalDate first, int step) {
        ZoneCompiler object = meeting(first, 2, step, 0);
        int many = 0;
        for (int i = 0; first.plusMonths(i).getYear() < 2032; i += step) {
            // The library takes the month's last day where there is no such day.
            LocalDate day = first.plusMonths(i);
            if (day.getDayOfMonth() == first.getDayOfMonth() && many < 40) {
                askDay(object, "kind 2 from " + first + " by " + step, many, day);
                many++;
            }
        }
        Due.same("kind 2 from " + first + " by " + step + ": occurrences", object.meeting(0, 8), many);
    }

    private static void askMonthlyByWeekday(LocalDate first, int step) {
        ZoneCompiler object = meeting(first, 3, step, 0);
        int which = (first.getDayOfMonth() + 6) / 7;
        int many = 0;
        for (LocalDate month = first.withDayOfMonth(1); month.getYear() < 2032; month = month.plusMonths(step)) {
            LocalDate day = month.with(TemporalAdjusters.dayOfWeekInMonth(which, first.getDayOfWeek()));
            if (day.getMonth() == month.getMonth() && many < 40) {
                askDay(object, "kind 3 from " + first + " by " + step, many, day);
                many++;
            }
        }
        Due.same("kind 3 from " + first + " by " + step + ": occurrences", object.meeting(0, 8), many);
    }

    private static ZoneCompiler meeting(LocalDate first, int kind, int step, int set) {
        ZoneCompiler object = Given.zone(0);
        object.addMeeting(0, minutes(first.atStartOfDay()) / DAY, 0, 60, 0, 40);
        object.recur(0, kind, step, set);
        return object;
    }

    private static void askDay(ZoneCompiler object, String call, int occurrence, LocalDate day) {
        Due.same(call + ": day of occurrence " + occurrence, object.occurrence(0, occurrence, 0),
                minutes(day.atStartOfDay()) / DAY);
    }

    // ---- minutes

    private static void begin() {
        asked = 0;
    }

    private static java.time.Instant utc(LocalDate day) {
        return day.atStartOfDay().toInstant(ZoneOffset.UTC);
    }

    private static int minutes(LocalDateTime time) {
        return (int) ChronoUnit.MINUTES.between(START, time);
    }

    private static int minutesOf(ZonedDateTime time) {
        return minutes(time.withZoneSameInstant(ZoneOffset.UTC).toLocalDateTime());
    }
}
