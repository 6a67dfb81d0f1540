import java.time.DayOfWeek;
import java.time.LocalDate;
import java.time.YearMonth;
import java.time.temporal.ChronoUnit;
import java.time.temporal.TemporalAdjusters;
import java.util.ArrayList;
import java.util.HashSet;
import java.util.List;
import java.util.NoSuchElementException;
import java.util.Set;
import java.util.TreeSet;
import java.util.regex.Matcher;
import java.util.regex.Pattern;

/**
 * The document once more, by the slowest and plainest means of the Java library: dates by java.time, instants by
 * trying each minute, texts by a pattern. ModelTest compares ZoneCompiler with it.
 */
final class PlainModel {

    private static final LocalDate ZERO = LocalDate.of(2000, 1, 1);
    private static final int LOCALS = 16830720;

    record Rule(int first, int last, int month, int date, int minute, int clock, int saving) { }

    record Change(int day, int base) { }

    record Event(int time, int source, int clock) { }

    record Transition(int instant, int before, int behind, int saving, int source) { }

    record VoidEvent(int time, int instant, int source) { }

    record Entry(int begin, int meeting, int occurrence) { }

    static final class Zone {
        final int base;
        final List<Rule> rules = new ArrayList<>();
        final List<Change> changes = new ArrayList<>();
        List<Transition> transitions;
        List<VoidEvent> voids;
        int events;

        Zone(int base) {
            this.base = base;
        }

        Zone copy() {
            Zone made = new Zone(base);
            made.rules.addAll(rules);
            made.changes.addAll(changes);
            made.transitions = transitions;
            made.voids = voids;
            made.events = events;
            return made;
        }

        void compile() {
            if (transitions != null) {
                return;
            }
            List<Event> all = new ArrayList<>();
            for (int c = 0; c < changes.size(); c++) {
                all.add(new Event(1440 * changes.get(c).day, 100 + c, 0));
            }
            for (int r = 0; r < rules.size(); r++) {
                Rule rule = rules.get(r);
                for (int year = rule.first; year <= rule.last; year++) {
                    int day = dayOf(year, rule.month, rule.date);
                    if (day >= 0) {
                        all.add(new Event(1440 * day + rule.minute, r, rule.clock));
                    }
                }
            }
            all.sort((one, other) -> one.time != other.time ? one.time - other.time : rank(one) - rank(other));
            events = all.size();
            transitions = new ArrayList<>();
            voids = new ArrayList<>();
            int baseNow = base;
            int savingNow = 0;
            for (Event event : all) {
                int instant = event.time;
                if (event.clock == 1) {
                    instant -= baseNow;
                }
                if (event.clock == 0) {
                    instant -= baseNow + savingNow;
                }
                if (!transitions.isEmpty() && transitions.get(transitions.size() - 1).instant >= instant) {
                    voids.add(new VoidEvent(event.time, instant, event.source));
                    continue;
                }
                int before = baseNow + savingNow;
                if (event.source >= 100) {
                    baseNow = changes.get(event.source - 100).base;
                } else {
                    savingNow = rules.get(event.source).saving;
                }
                if (baseNow + savingNow != before) {
                    transitions.add(new Transition(instant, before, baseNow + savingNow, savingNow, event.source));
                }
            }
        }

        private static int rank(Event event) {
            return event.source >= 100 ? event.source - 100 : 50 + event.source;
        }

        int offset(int instant) {
            compile();
            int offset = base;
            for (Transition transition : transitions) {
                if (transition.instant <= instant) {
                    offset = transition.behind;
                }
            }
            return offset;
        }

        /** The instants of a local time: every minute around it is tried. */
        List<Integer> instants(int local) {
            compile();
            List<Integer> found = new ArrayList<>();
            int from = local - 970;
            int until = local + 730;
            int offset = offset(from);
            int next = 0;
            while (next < transitions.size() && transitions.get(next).instant <= from) {
                next++;
            }
            for (int instant = from; instant <= until; instant++) {
                while (next < transitions.size() && transitions.get(next).instant <= instant) {
                    offset = transitions.get(next).behind;
                    next++;
                }
                if (instant + offset == local) {
                    found.add(instant);
                }
            }
            return found;
        }

        int cause(int local) {
            List<Integer> found = instants(local);
            if (found.size() == 1) {
                return -1;
            }
            for (int i = 0; i < transitions.size(); i++) {
                Transition at = transitions.get(i);
                boolean gap = found.isEmpty() && at.instant + at.before <= local && at.instant + at.behind > local;
                boolean fold = found.size() > 1 && at.instant > found.get(0)
                        && at.instant <= found.get(found.size() - 1);
                if (gap || fold) {
                    return i;
                }
            }
            throw new AssertionError("a gap or fold without a cause");
        }

        Integer instant(int local, int mode) {
            List<Integer> found = instants(local);
            if (found.size() == 1) {
                return found.get(0);
            }
            if (mode == 3) {
                return null;
            }
            if (found.size() > 1) {
                return mode == 1 ? found.get(found.size() - 1) : found.get(0);
            }
            Transition at = transitions.get(cause(local));
            return mode == 0 ? local - at.before : mode == 1 ? local - at.behind : at.instant;
        }

        int length(int day) {
            return instant(1440 * (day + 1), 2) - instant(1440 * day, 2);
        }
    }

    static final class Meeting {
        int zone;
        int day;
        int minute;
        int duration;
        int mode;
        int many;
        int kind;
        int step = 1;
        int set;
        int[] shifts = new int[40];
        boolean[] cancelled = new boolean[40];
        List<Integer> days;

        Meeting copy() {
            Meeting made = new Meeting();
            made.zone = zone;
            made.day = day;
            made.minute = minute;
            made.duration = duration;
            made.mode = mode;
            made.many = many;
            made.kind = kind;
            made.step = step;
            made.set = set;
            made.shifts = shifts.clone();
            made.cancelled = cancelled.clone();
            made.days = days;
            return made;
        }

        /** Each day of the calendar from the first one on is asked whether it is one of the meeting. */
        List<Integer> days() {
            if (days == null) {
                days = new ArrayList<>();
                for (int at = day; at <= 11687 && days.size() < many; at++) {
                    if (recursOn(at)) {
                        days.add(at);
                    }
                }
            }
            return days;
        }

        private boolean recursOn(int at) {
            LocalDate first = ZERO.plusDays(day);
            LocalDate date = ZERO.plusDays(at);
            if (kind == 0) {
                return (at - day) % step == 0;
            }
            if (kind == 1) {
                LocalDate monday = first.with(TemporalAdjusters.previousOrSame(DayOfWeek.MONDAY));
                long week = ChronoUnit.DAYS.between(monday, date) / 7;
                return week % step == 0 && (set & 1 << date.getDayOfWeek().getValue() - 1) != 0;
            }
            long month = ChronoUnit.MONTHS.between(YearMonth.from(first), YearMonth.from(date));
            if (month % step != 0) {
                return false;
            }
            if (kind == 2) {
                return date.getDayOfMonth() == first.getDayOfMonth();
            }
            return date.getDayOfWeek() == first.getDayOfWeek()
                    && (date.getDayOfMonth() - 1) / 7 == (first.getDayOfMonth() - 1) / 7;
        }

        int local(int occurrence) {
            return 1440 * days().get(occurrence) + minute + shifts[occurrence];
        }
    }

    static final class State {
        final List<Zone> zones = new ArrayList<>();
        final List<Meeting> meetings = new ArrayList<>();

        State copy() {
            State made = new State();
            for (Zone zone : zones) {
                made.zones.add(zone.copy());
            }
            for (Meeting meeting : meetings) {
                made.meetings.add(meeting.copy());
            }
            return made;
        }
    }

    private State state = new State();
    private State saved;
    private final List<State> past = new ArrayList<>();
    private String buffer = "";
    private String written = "";
    private int wrong = -1;

    // ---- helpers

    static int dayOf(int year, int month, int date) {
        YearMonth of = YearMonth.of(2000 + year, month);
        LocalDate found = null;
        for (int day = 1; day <= of.lengthOfMonth(); day++) {
            LocalDate at = of.atDay(day);
            int weekday = at.getDayOfWeek().getValue() - 1;
            if (date <= 31 && day == date) {
                found = at;
            } else if (date >= 100 && date < 500 && weekday == date % 100 && (day - 1) / 7 + 1 == date / 100) {
                found = at;
            } else if (date >= 500 && date < 1000 && weekday == date % 100) {
                found = at;
            } else if (date >= 1000 && weekday == date % 10 && day >= (date - 1000) / 10 && found == null) {
                found = at;
            }
        }
        return found == null ? -1 : (int) ChronoUnit.DAYS.between(ZERO, found);
    }

    private static void index(boolean there) {
        if (!there) {
            throw new IndexOutOfBoundsException();
        }
    }

    private static void argument(boolean fits) {
        if (!fits) {
            throw new IllegalArgumentException();
        }
    }

    private static void element(boolean there) {
        if (!there) {
            throw new NoSuchElementException();
        }
    }

    private static void state(boolean fits) {
        if (!fits) {
            throw new IllegalStateException();
        }
    }

    private static boolean in(int number, int least, int greatest) {
        return number >= least && number <= greatest;
    }

    private Zone zoneAt(int zone) {
        index(in(zone, 0, state.zones.size() - 1));
        return state.zones.get(zone);
    }

    private Meeting meetingAt(int meeting) {
        index(in(meeting, 0, state.meetings.size() - 1));
        return state.meetings.get(meeting);
    }

    private Meeting meetingAt(int meeting, int occurrence) {
        Meeting found = meetingAt(meeting);
        index(in(occurrence, 0, found.days().size() - 1));
        return found;
    }

    private void keep(State before) {
        past.add(before);
        if (past.size() > 8) {
            past.remove(0);
        }
    }

    private static boolean local(int local) {
        return in(local, 0, LOCALS - 1);
    }

    private static boolean instant(int instant) {
        return in(instant, -2000, 16832719);
    }

    private static boolean isDate(int date) {
        if (in(date, 1, 31)) {
            return true;
        }
        for (int weekday = 0; weekday <= 6; weekday++) {
            for (int n = 1; n <= 5; n++) {
                if (date == 100 * n + weekday) {
                    return true;
                }
            }
            for (int day = 1; day <= 31; day++) {
                if (date == 1000 + 10 * day + weekday) {
                    return true;
                }
            }
        }
        return false;
    }

    /** The instant at which an occurrence begins, or null if it does not take place. */
    private Integer begin(Meeting meeting, int occurrence) {
        int local = meeting.local(occurrence);
        if (meeting.cancelled[occurrence] || !local(local)) {
            return null;
        }
        return state.zones.get(meeting.zone).instant(local, meeting.mode);
    }

    private List<Entry> entries(int meeting) {
        List<Entry> all = new ArrayList<>();
        Meeting rows = state.meetings.get(meeting);
        for (int i = 0; i < rows.days().size(); i++) {
            Integer begin = begin(rows, i);
            if (begin != null) {
                all.add(new Entry(begin, meeting, i));
            }
        }
        return all;
    }

    private List<Entry> allEntries() {
        List<Entry> all = new ArrayList<>();
        for (int i = 0; i < state.meetings.size(); i++) {
            all.addAll(entries(i));
        }
        // The sort is stable, so that like beginnings stay in the order of meetings and numbers.
        all.sort((one, other) -> Integer.compare(one.begin, other.begin));
        return all;
    }

    // ---- the face

    int day(int year, int month, int day) {
        argument(in(year, 0, 31) && in(month, 1, 12) && in(day, 1, 31));
        argument(day <= YearMonth.of(2000 + year, month).lengthOfMonth());
        return (int) ChronoUnit.DAYS.between(ZERO, LocalDate.of(2000 + year, month, day));
    }

    int date(int day, int what) {
        index(in(day, 0, 11687));
        argument(in(what, 0, 5));
        LocalDate date = ZERO.plusDays(day);
        return switch (what) {
            case 0 -> date.getYear() - 2000;
            case 1 -> date.getMonthValue();
            case 2 -> date.getDayOfMonth();
            case 3 -> date.getDayOfWeek().getValue() - 1;
            case 4 -> date.getDayOfYear();
            default -> (date.getDayOfMonth() + 6) / 7;
        };
    }

    int addZone(int base) {
        State before = state.copy();
        int zone = plainAddZone(base);
        keep(before);
        return zone;
    }

    private int plainAddZone(int base) {
        argument(in(base, -720, 840));
        state(state.zones.size() < 6);
        state.zones.add(new Zone(base));
        return state.zones.size() - 1;
    }

    int changeBase(int zone, int day, int base) {
        State before = state.copy();
        int change = plainChangeBase(zone, day, base);
        keep(before);
        return change;
    }

    private int plainChangeBase(int zone, int day, int base) {
        Zone rows = zoneAt(zone);
        argument(in(day, 0, 11687) && in(base, -720, 840));
        state(rows.changes.size() < 4);
        rows.changes.add(new Change(day, base));
        rows.transitions = null;
        return rows.changes.size() - 1;
    }

    int addRule(int zone, int years, int month, int date, int when, int saving) {
        State before = state.copy();
        int rule = plainAddRule(zone, years, month, date, when, saving);
        keep(before);
        return rule;
    }

    private int plainAddRule(int zone, int years, int month, int date, int when, int saving) {
        Zone rows = zoneAt(zone);
        argument(years >= 0 && when >= 0);
        argument(in(years / 100, 0, 31) && in(years % 100, 0, 31) && years / 100 <= years % 100);
        argument(in(month, 1, 12) && isDate(date) && in(when / 10, 0, 1439) && in(when % 10, 0, 2));
        argument(in(saving, 0, 120));
        state(rows.rules.size() < 8);
        rows.rules.add(new Rule(years / 100, years % 100, month, date, when / 10, when % 10, saving));
        rows.transitions = null;
        return rows.rules.size() - 1;
    }

    int dropRule(int zone, int rule) {
        State before = state.copy();
        int rules = plainDropRule(zone, rule);
        keep(before);
        return rules;
    }

    private int plainDropRule(int zone, int rule) {
        ruleAt(zone, rule);
        Zone rows = zoneAt(zone);
        rows.rules.remove(rule);
        rows.transitions = null;
        return rows.rules.size();
    }

    int zone(int zone, int what) {
        Zone rows = zoneAt(zone);
        argument(in(what, 0, 8));
        rows.compile();
        TreeSet<Integer> offsets = new TreeSet<>();
        offsets.add(rows.base);
        rows.transitions.forEach(transition -> offsets.add(transition.behind));
        return switch (what) {
            case 0 -> rows.base;
            case 1 -> rows.rules.size();
            case 2 -> rows.changes.size();
            case 3 -> rows.transitions.size();
            case 4 -> rows.voids.size();
            case 5 -> rows.events;
            case 6 -> rows.offset(16832719);
            case 7 -> offsets.last();
            default -> offsets.first();
        };
    }

    private Rule ruleAt(int zone, int rule) {
        index(in(rule, 0, zoneAt(zone).rules.size() - 1));
        return zoneAt(zone).rules.get(rule);
    }

    int rule(int zone, int rule, int what) {
        Rule at = ruleAt(zone, rule);
        argument(in(what, 0, 6));
        int[] all = {at.first, at.last, at.month, at.date, at.minute, at.clock, at.saving};
        return all[what];
    }

    int eventDay(int zone, int rule, int year) {
        Rule at = ruleAt(zone, rule);
        argument(in(year, 0, 31));
        element(in(year, at.first, at.last));
        int day = dayOf(year, at.month, at.date);
        element(day >= 0);
        return day;
    }

    int transition(int zone, int transition, int what) {
        Zone rows = zoneAt(zone);
        rows.compile();
        element(in(transition, 0, rows.transitions.size() - 1));
        argument(in(what, 0, 4));
        Transition at = rows.transitions.get(transition);
        int[] all = {at.instant, at.before, at.behind, at.saving, at.source};
        return all[what];
    }

    int voidEvent(int zone, int event, int what) {
        Zone rows = zoneAt(zone);
        rows.compile();
        element(in(event, 0, rows.voids.size() - 1));
        argument(in(what, 0, 2));
        VoidEvent at = rows.voids.get(event);
        int[] all = {at.time, at.instant, at.source};
        return all[what];
    }

    int offset(int zone, int instant) {
        Zone rows = zoneAt(zone);
        argument(instant(instant));
        return rows.offset(instant);
    }

    int offsetAgain(int zone, int instant) {
        return offset(zone, instant);
    }

    int toLocal(int zone, int instant) {
        return instant + offset(zone, instant);
    }

    int instants(int zone, int local) {
        Zone rows = zoneAt(zone);
        argument(local(local));
        return rows.instants(local).size();
    }

    int instantsAgain(int zone, int local) {
        return instants(zone, local);
    }

    int cause(int zone, int local) {
        Zone rows = zoneAt(zone);
        argument(local(local));
        return rows.cause(local);
    }

    int toInstant(int zone, int local, int mode) {
        Zone rows = zoneAt(zone);
        argument(local(local) && in(mode, 0, 3));
        Integer found = rows.instant(local, mode);
        if (found == null) {
            throw new UnsupportedOperationException();
        }
        return found;
    }

    int convert(int zone, int local, int other, int mode) {
        zoneAt(zone);
        Zone target = zoneAt(other);
        int instant = toInstant(zone, local, mode);
        return instant + target.offset(instant);
    }

    int dayLength(int zone, int day) {
        Zone rows = zoneAt(zone);
        index(in(day, 0, 11687));
        return rows.length(day);
    }

    int account(int zone, int year, int what) {
        Zone rows = zoneAt(zone);
        argument(in(year, 0, 31) && in(what, 0, 3));
        int first = day(year, 1, 1);
        int last = day(year, 12, 31);
        int sum = 0;
        if (what == 0) {
            for (int day = first; day <= last; day++) {
                sum += rows.length(day);
            }
            return sum;
        }
        // Every instant around the year is put on its local time.
        int[] seen = new int[1440 * (last - first + 1)];
        rows.compile();
        int next = 0;
        int offset = rows.base;
        for (int instant = 1440 * first - 1000; instant < 1440 * (last + 1) + 1000; instant++) {
            while (next < rows.transitions.size() && rows.transitions.get(next).instant <= instant) {
                offset = rows.transitions.get(next).behind;
                next++;
            }
            int at = instant + offset - 1440 * first;
            if (at >= 0 && at < seen.length) {
                seen[at]++;
            }
        }
        for (int many : seen) {
            if (what == 1) {
                sum += many == 0 ? 1 : 0;
            } else if (what == 2) {
                sum += many > 1 ? many - 1 : 0;
            } else {
                sum++;
            }
        }
        return sum;
    }

    int addMeeting(int zone, int day, int minute, int duration, int mode, int many) {
        zoneAt(zone);
        argument(in(day, 0, 11687) && in(minute, 0, 1439) && in(duration, 1, 1440) && in(mode, 0, 3));
        argument(in(many, 1, 40));
        state(state.meetings.size() < 10);
        keep(state.copy());
        Meeting made = new Meeting();
        made.zone = zone;
        made.day = day;
        made.minute = minute;
        made.duration = duration;
        made.mode = mode;
        made.many = many;
        state.meetings.add(made);
        return state.meetings.size() - 1;
    }

    int recur(int meeting, int kind, int step, int set) {
        Meeting rows = meetingAt(meeting);
        argument(in(kind, 0, 3));
        argument(in(step, 1, kind == 0 ? 60 : kind == 1 ? 8 : 24));
        argument(kind == 1 ? in(set, 1, 127) : set == 0);
        keep(state.copy());
        rows.kind = kind;
        rows.step = step;
        rows.set = set;
        rows.shifts = new int[40];
        rows.cancelled = new boolean[40];
        rows.days = null;
        return rows.days().size();
    }

    int cancel(int meeting, int occurrence) {
        meetingAt(meeting, occurrence);
        keep(state.copy());
        return plainCancel(meeting, occurrence);
    }

    private int plainCancel(int meeting, int occurrence) {
        Meeting rows = meetingAt(meeting, occurrence);
        rows.cancelled[occurrence] = !rows.cancelled[occurrence];
        return rows.cancelled[occurrence] ? 1 : 0;
    }

    int shift(int meeting, int occurrence, int minutes) {
        Meeting rows = meetingAt(meeting, occurrence);
        argument(in(minutes, -1440, 1440));
        keep(state.copy());
        int previous = rows.shifts[occurrence];
        rows.shifts[occurrence] = minutes;
        return previous;
    }

    int meeting(int meeting, int what) {
        Meeting rows = meetingAt(meeting);
        argument(in(what, 0, 9));
        int[] all = {rows.zone, rows.day, rows.minute, rows.duration, rows.mode, rows.kind, rows.step, rows.set,
            rows.days().size(), entries(meeting).size()};
        return all[what];
    }

    int occurrence(int meeting, int occurrence, int what) {
        Meeting rows = meetingAt(meeting, occurrence);
        argument(in(what, 0, 5));
        int local = rows.local(occurrence);
        Integer begin = begin(rows, occurrence);
        element(what != 5 || begin != null);
        return switch (what) {
            case 0 -> rows.days().get(occurrence);
            case 1 -> local;
            case 2 -> rows.shifts[occurrence];
            case 3 -> rows.cancelled[occurrence] ? 1 : begin == null ? 2 : 0;
            case 4 -> local(local) ? instants(rows.zone, local) : -1;
            default -> begin;
        };
    }

    int next(int meeting, int instant) {
        meetingAt(meeting);
        argument(instant(instant));
        Entry best = null;
        for (Entry entry : entries(meeting)) {
            if (entry.begin >= instant && (best == null || entry.begin < best.begin)) {
                best = entry;
            }
        }
        element(best != null);
        return best.occurrence;
    }

    int clash(int one, int other) {
        int first = meetingAt(one).duration;
        int second = meetingAt(other).duration;
        for (Entry entry : entries(one)) {
            for (Entry with : entries(other)) {
                boolean apart = entry.begin + first <= with.begin || with.begin + second <= entry.begin;
                if (!apart && (one != other || entry.occurrence < with.occurrence)) {
                    return 100 * entry.occurrence + with.occurrence;
                }
            }
        }
        return -1;
    }

    int agenda(int instant, int index) {
        argument(instant(instant));
        List<Entry> all = allEntries();
        all.removeIf(entry -> entry.begin < instant);
        element(in(index, 0, all.size() - 1));
        return 100 * all.get(index).meeting + all.get(index).occurrence;
    }

    int drift(int meeting, int zone) {
        meetingAt(meeting);
        Zone rows = zoneAt(zone);
        Set<Integer> minutes = new HashSet<>();
        for (Entry entry : entries(meeting)) {
            minutes.add(Math.floorMod(entry.begin + rows.offset(entry.begin), 1440));
        }
        return minutes.size();
    }

    int free(int from, int until, int minutes) {
        argument(instant(from) && instant(until) && in(minutes, 1, 1440));
        List<Entry> all = allEntries();
        // The first such instant is the least one or the end of an occurrence.
        TreeSet<Integer> starts = new TreeSet<>();
        starts.add(from);
        for (Entry entry : all) {
            int end = entry.begin + state.meetings.get(entry.meeting).duration;
            if (end >= from) {
                starts.add(end);
            }
        }
        for (int start : starts) {
            boolean fits = start + minutes <= until;
            for (Entry entry : all) {
                int end = entry.begin + state.meetings.get(entry.meeting).duration;
                fits &= end <= start || entry.begin >= start + minutes;
            }
            if (fits) {
                return start;
            }
        }
        throw new NoSuchElementException();
    }

    int append(int packed) {
        StringBuilder more = new StringBuilder();
        for (byte letter : new byte[] {(byte) (packed >> 24), (byte) (packed >> 16), (byte) (packed >> 8), (byte) packed}) {
            if (letter != 0) {
                argument(in(letter, 33, 126));
                more.append((char) letter);
            }
        }
        state(buffer.length() + more.length() <= 60);
        buffer += more;
        return buffer.length();
    }

    // ---- texts, by a pattern: a text can go on if the pattern hits its end

    private static final String NUMBER = "(?:0|[1-9][0-9]{0,4})";
    private static final String BASE = "-?" + NUMBER;
    private static final String DATE = "(?:" + NUMBER + "|[1-4]x[0-6]|l[0-6]|[0-6]>(?:0|[1-9][0-9]?))";
    private static final String COMMAND = "(?:zone:" + BASE
            + ";|base:" + NUMBER + "," + NUMBER + "," + BASE
            + ";|rule:" + (NUMBER + ",").repeat(4) + DATE + "," + NUMBER + ",[wbi]," + NUMBER
            + ";|drop:" + NUMBER + "," + NUMBER
            + ";|cancel:" + NUMBER + "," + NUMBER + ";)";
    private static final Pattern TEXT = Pattern.compile(COMMAND + "+");
    private static final List<String> WORDS = List.of("zone", "base", "rule", "drop", "cancel");

    private static boolean canGoOn(String text) {
        Matcher matcher = TEXT.matcher(text);
        return matcher.matches() || matcher.hitEnd();
    }

    private static int errorOf(String text) {
        if (TEXT.matcher(text).matches()) {
            return -1;
        }
        int wrong = 0;
        while (wrong < text.length() && canGoOn(text.substring(0, wrong + 1))) {
            wrong++;
        }
        // Back to the first letter, if the command that goes wrong here begins with another word.
        int start = text.substring(0, wrong).lastIndexOf(';') + 1;
        int end = start;
        while (end < text.length() && in(text.charAt(end), 'a', 'z')) {
            end++;
        }
        return end > start && !WORDS.contains(text.substring(start, end)) ? start : wrong;
    }

    int run() {
        String text = buffer;
        buffer = "";
        wrong = errorOf(text);
        argument(wrong < 0);
        State before = state.copy();
        int at = 0;
        int commands = 0;
        try {
            for (String command : text.split(";")) {
                String[] items = command.substring(command.indexOf(':') + 1).split(",");
                carryOut(command.substring(0, command.indexOf(':')), items);
                at += command.length() + 1;
                commands++;
            }
        } catch (IndexOutOfBoundsException | IllegalArgumentException | IllegalStateException broken) {
            wrong = at;
            state = before;
            throw new IllegalStateException();
        }
        keep(before);
        return commands;
    }

    private void carryOut(String word, String[] items) {
        switch (word) {
            case "zone" -> plainAddZone(number(items[0]));
            case "base" -> plainChangeBase(number(items[0]), number(items[1]), number(items[2]));
            case "rule" -> {
                int first = number(items[1]) - 2000;
                int last = number(items[2]) - 2000;
                argument(in(first, 0, 31) && in(last, 0, 31));
                int when = 10 * number(items[5]) + "wbi".indexOf(items[6]);
                plainAddRule(number(items[0]), 100 * first + last, number(items[3]), date(items[4]), when,
                        number(items[7]));
            }
            case "drop" -> plainDropRule(number(items[0]), number(items[1]));
            default -> plainCancel(number(items[0]), number(items[1]));
        }
    }

    private static int number(String item) {
        return Integer.parseInt(item);
    }

    private static int date(String item) {
        if (item.startsWith("l")) {
            return 500 + number(item.substring(1));
        }
        if (item.contains("x")) {
            return 100 * number(item.substring(0, 1)) + number(item.substring(2));
        }
        if (item.contains(">")) {
            int from = number(item.substring(2));
            argument(in(from, 1, 31));
            return 1000 + 10 * from + number(item.substring(0, 1));
        }
        argument(in(number(item), 1, 31));
        return number(item);
    }

    int errorPosition() {
        return wrong;
    }

    int write(int zone, int rule) {
        Rule at = ruleAt(zone, rule);
        String date = "" + at.date;
        if (at.date >= 1000) {
            date = at.date % 10 + ">" + (at.date / 10 - 100);
        } else if (at.date >= 500) {
            date = "l" + (at.date - 500);
        } else if (at.date >= 100) {
            date = at.date / 100 + "x" + at.date % 100;
        }
        written = 2000 + at.first + "," + (2000 + at.last) + "," + at.month + "," + date + "," + at.minute + ","
                + "wbi".charAt(at.clock) + "," + at.saving;
        return written.length();
    }

    char character(int index) {
        index(in(index, 0, written.length() - 1));
        return written.charAt(index);
    }

    int undo() {
        state(!past.isEmpty());
        state = past.remove(past.size() - 1);
        return past.size();
    }

    int save() {
        saved = state.copy();
        return state.zones.size();
    }

    int restore() {
        state(saved != null);
        state = saved.copy();
        past.clear();
        return state.zones.size();
    }

    int count(int what) {
        argument(in(what, 0, 5));
        int occurrences = state.meetings.stream().mapToInt(meeting -> meeting.days().size()).sum();
        return switch (what) {
            case 0 -> state.zones.size();
            case 1 -> state.meetings.size();
            case 2 -> occurrences;
            case 3 -> allEntries().size();
            case 4 -> past.size();
            default -> buffer.length();
        };
    }
}
