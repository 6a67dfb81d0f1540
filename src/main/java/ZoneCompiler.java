import java.util.NoSuchElementException;

/**
 * A compiler of time zones: rules, changes of the base, transitions, conversions, meetings, texts, undo and saving.
 *
 * All rows are made in the constructor and used again, so that calls leave next to nothing behind.
 */
public final class ZoneCompiler {

    private static final int YEARS = 32;
    private static final int MONTHS = 12 * YEARS;
    private static final int LAST_DAY = 11687;
    private static final int DAY = 1440;
    private static final int LOCALS = DAY * (LAST_DAY + 1);
    private static final int FIRST_INSTANT = -2000;
    private static final int LAST_INSTANT = 16832719;
    private static final int LEAST_BASE = -720;
    private static final int GREATEST_BASE = 840;
    private static final int GREATEST_SAVING = 120;

    private static final int MOST_ZONES = 6;
    private static final int MOST_RULES = 8;
    private static final int MOST_CHANGES = 4;
    private static final int MOST_EVENTS = MOST_RULES * YEARS + MOST_CHANGES;
    private static final int MOST_MEETINGS = 10;
    private static final int MOST_OCCURRENCES = 40;
    private static final int MOST_BEGINNINGS = MOST_MEETINGS * MOST_OCCURRENCES;
    private static final int MOST_UNDO = 8;
    private static final int MOST_LETTERS = 60;

    /** In the order in which the method rule tells them, so that its what is the place. */
    private static final int FIRST_YEAR = 0;
    private static final int FINAL_YEAR = 1;
    private static final int MONTH = 2;
    private static final int DATE = 3;
    private static final int MINUTE = 4;
    private static final int CLOCK = 5;
    private static final int SAVING = 6;
    private static final int RULE_NUMBERS = 7;

    private static final int WALL = 0;
    private static final int INSTANTS = 2;

    /** A key of an event is its time times this, plus its source: changes first, so that keys sort like events. */
    private static final int SOURCES = 16;

    private static final int VOID = 0;
    private static final int QUIET = 1;
    private static final int TRANSITION = 2;

    /** Stands for an instant that there is not; it lies far ahead of those that there are. */
    private static final int NONE = -1000000000;

    private static final int NO_WORD = -1;
    private static final int ZONE_WORD = 0;
    private static final int BASE_WORD = 1;
    private static final int RULE_WORD = 2;
    private static final int DROP_WORD = 3;
    private static final int CANCEL_WORD = 4;
    private static final int WORDS = 5;
    private static final int NO_DATE = 0;
    private static final int TEXT_YEAR = 2000;

    /** What can be wrong with a change: told by number, because a command must not throw what its method throws. */
    private static final int FINE = 0;
    private static final int NO_INDEX = 1;
    private static final int NO_ARGUMENT = 2;
    private static final int NOT_NOW = 3;

    private final Book book;
    private final History history;
    private final Timeline[] timelines;
    private final Plan[] plans;
    private final Force force;
    private final Reader reader;
    private final Writer writer;
    private final long[] eventKeys;
    private final long[] beginningKeys;

    public ZoneCompiler() {
        book = new Book();
        history = new History();
        timelines = new Timeline[MOST_ZONES];
        for (int i = 0; i < MOST_ZONES; i++) {
            timelines[i] = new Timeline();
        }
        plans = new Plan[MOST_MEETINGS];
        for (int i = 0; i < MOST_MEETINGS; i++) {
            plans[i] = new Plan();
        }
        force = new Force();
        reader = new Reader();
        writer = new Writer();
        eventKeys = new long[MOST_EVENTS];
        beginningKeys = new long[MOST_BEGINNINGS];
    }

    // ---- the calendar

    public int day(int year, int month, int day) throws IllegalArgumentException {
        needArgument(isYear(year) && isMonth(month));
        needArgument(day >= 1 && day <= Calendar.monthLength(year, month));
        return Calendar.monthStart(year, month) + day - 1;
    }

    public int date(int day, int what) throws IndexOutOfBoundsException, IllegalArgumentException {
        needIndex(isDay(day));
        needArgument(what >= 0 && what <= 5);
        int year = Calendar.yearOf(day);
        int month = Calendar.monthOf(year, day);
        int dayOfMonth = day - Calendar.monthStart(year, month) + 1;
        switch (what) {
            case 0: return year;
            case 1: return month;
            case 2: return dayOfMonth;
            case 3: return Calendar.weekday(day);
            case 4: return day - Calendar.yearStart(year) + 1;
            default: return (dayOfMonth - 1) / 7 + 1;
        }
    }

    // ---- zones, rules, changes

    public int addZone(int base) throws IllegalArgumentException, IllegalStateException {
        refuse(zoneFault(base));
        remember();
        return putZone(base);
    }

    public int changeBase(int zone, int day, int base)
            throws IndexOutOfBoundsException, IllegalArgumentException, IllegalStateException {
        refuse(changeFault(zone, day, base));
        remember();
        return putChange(zone, day, base);
    }

    public int addRule(int zone, int years, int month, int date, int when, int saving)
            throws IndexOutOfBoundsException, IllegalArgumentException, IllegalStateException {
        refuse(ruleFault(zone, years, month, date, when, saving));
        remember();
        return putRule(zone, years, month, date, when, saving);
    }

    public int dropRule(int zone, int rule) throws IndexOutOfBoundsException {
        refuse(ruleIndexFault(zone, rule));
        remember();
        return takeRule(zone, rule);
    }

    public int zone(int zone, int what) throws IndexOutOfBoundsException, IllegalArgumentException {
        needZone(zone);
        needArgument(what >= 0 && what <= 8);
        Zone rows = book.zones[zone];
        Timeline line = compiled(zone);
        switch (what) {
            case 0: return rows.base;
            case 1: return rows.rules;
            case 2: return rows.changes;
            case 3: return line.transitions;
            case 4: return line.voids;
            case 5: return line.events;
            case 6: return line.offsetIn(line.transitions);
            case 7: return line.greatest;
            default: return line.least;
        }
    }

    public int rule(int zone, int rule, int what) throws IndexOutOfBoundsException, IllegalArgumentException {
        refuse(ruleIndexFault(zone, rule));
        needArgument(what >= 0 && what < RULE_NUMBERS);
        return book.zones[zone].ruleNumber(rule, what);
    }

    public int eventDay(int zone, int rule, int year)
            throws IndexOutOfBoundsException, IllegalArgumentException, NoSuchElementException {
        refuse(ruleIndexFault(zone, rule));
        needArgument(isYear(year));
        int day = book.zones[zone].dayOfEvent(rule, year);
        needElement(day >= 0);
        return day;
    }

    // ---- transitions

    public int transition(int zone, int transition, int what)
            throws IndexOutOfBoundsException, NoSuchElementException, IllegalArgumentException {
        needZone(zone);
        Timeline line = compiled(zone);
        needElement(transition >= 0 && transition < line.transitions);
        needArgument(what >= 0 && what <= 4);
        switch (what) {
            case 0: return line.starts[transition];
            case 1: return line.offsetIn(transition);
            case 2: return line.offsetIn(transition + 1);
            case 3: return line.savings[transition];
            default: return line.sources[transition];
        }
    }

    public int voidEvent(int zone, int event, int what)
            throws IndexOutOfBoundsException, NoSuchElementException, IllegalArgumentException {
        needZone(zone);
        Timeline line = compiled(zone);
        needElement(event >= 0 && event < line.voids);
        needArgument(what >= 0 && what <= 2);
        switch (what) {
            case 0: return line.voidTimes[event];
            case 1: return line.voidStarts[event];
            default: return line.voidSources[event];
        }
    }

    public int offset(int zone, int instant) throws IndexOutOfBoundsException, IllegalArgumentException {
        needZone(zone);
        needArgument(isInstant(instant));
        return compiled(zone).offsetAt(instant);
    }

    public int offsetAgain(int zone, int instant) throws IndexOutOfBoundsException, IllegalArgumentException {
        needZone(zone);
        needArgument(isInstant(instant));
        Zone rows = book.zones[zone];
        force.begin(rows.base);
        int found = rows.base;
        for (int year = 0; year < YEARS; year++) {
            int many = rows.listEventsOfYear(year, eventKeys);
            sortKeys(eventKeys, many);
            for (int i = 0; i < many; i++) {
                if (force.take(rows, eventKeys[i]) == TRANSITION && force.start <= instant) {
                    found = force.base + force.saving;
                }
            }
        }
        return found;
    }

    // ---- conversions

    public int toLocal(int zone, int instant) throws IndexOutOfBoundsException, IllegalArgumentException {
        needZone(zone);
        needArgument(isInstant(instant));
        return instant + compiled(zone).offsetAt(instant);
    }

    public int instants(int zone, int local) throws IndexOutOfBoundsException, IllegalArgumentException {
        needZone(zone);
        needArgument(isLocal(local));
        Timeline line = compiled(zone);
        line.look(local);
        return line.found;
    }

    public int instantsAgain(int zone, int local) throws IndexOutOfBoundsException, IllegalArgumentException {
        needZone(zone);
        needArgument(isLocal(local));
        Timeline line = compiled(zone);
        int offsets = 0;
        int many = 0;
        for (int span = 0; span <= line.transitions; span++) {
            int offset = line.offsetIn(span);
            int known = offsets;
            offsets = addKey(beginningKeys, offsets, offset);
            many += offsets > known && line.offsetAt(local - offset) == offset ? 1 : 0;
        }
        return many;
    }

    public int cause(int zone, int local) throws IndexOutOfBoundsException, IllegalArgumentException {
        needZone(zone);
        needArgument(isLocal(local));
        return compiled(zone).causeOf(local);
    }

    public int toInstant(int zone, int local, int mode)
            throws IndexOutOfBoundsException, IllegalArgumentException, UnsupportedOperationException {
        needZone(zone);
        needArgument(isLocal(local) && isMode(mode));
        return needInstant(compiled(zone).instantOf(local, mode));
    }

    public int convert(int zone, int local, int other, int mode)
            throws IndexOutOfBoundsException, IllegalArgumentException, UnsupportedOperationException {
        needZone(zone);
        needZone(other);
        needArgument(isLocal(local) && isMode(mode));
        int instant = needInstant(compiled(zone).instantOf(local, mode));
        return instant + compiled(other).offsetAt(instant);
    }

    public int dayLength(int zone, int day) throws IndexOutOfBoundsException {
        needZone(zone);
        needIndex(isDay(day));
        Timeline line = compiled(zone);
        return line.beginningOf(day + 1) - line.beginningOf(day);
    }

    public int account(int zone, int year, int what) throws IndexOutOfBoundsException, IllegalArgumentException {
        needZone(zone);
        needArgument(isYear(year) && what >= 0 && what <= 3);
        Timeline line = compiled(zone);
        int first = Calendar.yearStart(year);
        int end = Calendar.yearStart(year + 1);
        switch (what) {
            case 0: return line.beginningOf(end) - line.beginningOf(first);
            case 1: return line.countMinutes(DAY * first, DAY * end, true);
            case 2: return line.countMinutes(DAY * first, DAY * end, false);
            default: return DAY * (end - first);
        }
    }

    // ---- meetings

    public int addMeeting(int zone, int day, int minute, int duration, int mode, int many)
            throws IndexOutOfBoundsException, IllegalArgumentException, IllegalStateException {
        needZone(zone);
        needArgument(isDay(day) && minute >= 0 && minute < DAY && duration >= 1 && duration <= DAY);
        needArgument(isMode(mode) && many >= 1 && many <= MOST_OCCURRENCES);
        refuse(book.meetingCount < MOST_MEETINGS ? FINE : NOT_NOW);
        remember();
        int meeting = book.meetingCount;
        book.meetings[meeting].begin(zone, day, minute, duration, mode, many);
        book.meetingCount = meeting + 1;
        plans[meeting].spoil();
        return meeting;
    }

    public int recur(int meeting, int kind, int step, int set)
            throws IndexOutOfBoundsException, IllegalArgumentException {
        needMeeting(meeting);
        needArgument(kind >= 0 && kind <= 3 && step >= 1 && step <= greatestStep(kind));
        needArgument(kind == 1 ? set >= 1 && set <= 127 : set == 0);
        remember();
        book.meetings[meeting].repeat(kind, step, set);
        plans[meeting].spoil();
        return laidOut(meeting).many;
    }

    public int cancel(int meeting, int occurrence) throws IndexOutOfBoundsException {
        refuse(occurrenceFault(meeting, occurrence));
        remember();
        return turnCancelled(meeting, occurrence);
    }

    public int shift(int meeting, int occurrence, int minutes)
            throws IndexOutOfBoundsException, IllegalArgumentException {
        refuse(occurrenceFault(meeting, occurrence));
        needArgument(minutes >= -DAY && minutes <= DAY);
        remember();
        int previous = book.meetings[meeting].shifts[occurrence];
        book.meetings[meeting].shifts[occurrence] = minutes;
        plans[meeting].timed = false;
        return previous;
    }

    public int meeting(int meeting, int what) throws IndexOutOfBoundsException, IllegalArgumentException {
        needMeeting(meeting);
        needArgument(what >= 0 && what <= 9);
        Meeting rows = book.meetings[meeting];
        switch (what) {
            case 0: return rows.zone;
            case 1: return rows.day;
            case 2: return rows.minute;
            case 3: return rows.duration;
            case 4: return rows.mode;
            case 5: return rows.kind;
            case 6: return rows.step;
            case 7: return rows.set;
            case 8: return laidOut(meeting).many;
            default: return timed(meeting).countTaking(rows);
        }
    }

    public int occurrence(int meeting, int occurrence, int what)
            throws IndexOutOfBoundsException, IllegalArgumentException, NoSuchElementException {
        refuse(occurrenceFault(meeting, occurrence));
        needArgument(what >= 0 && what <= 5);
        Meeting rows = book.meetings[meeting];
        Plan plan = timed(meeting);
        int local = plan.localOf(rows, occurrence);
        switch (what) {
            case 0: return plan.days[occurrence];
            case 1: return local;
            case 2: return rows.shifts[occurrence];
            case 3: return stateOf(rows, plan, occurrence);
            case 4: return isLocal(local) ? instants(rows.zone, local) : -1;
            default: break;
        }
        needElement(plan.takesPlace(rows, occurrence));
        return plan.begins[occurrence];
    }

    public int next(int meeting, int instant)
            throws IndexOutOfBoundsException, IllegalArgumentException, NoSuchElementException {
        needMeeting(meeting);
        needArgument(isInstant(instant));
        Meeting rows = book.meetings[meeting];
        Plan plan = timed(meeting);
        int best = -1;
        for (int i = 0; i < plan.many; i++) {
            if (plan.takesPlace(rows, i) && plan.begins[i] >= instant
                    && (best < 0 || plan.begins[i] < plan.begins[best])) {
                best = i;
            }
        }
        needElement(best >= 0);
        return best;
    }

    public int clash(int one, int other) throws IndexOutOfBoundsException {
        needMeeting(one);
        needMeeting(other);
        Plan plan = timed(one);
        timed(other);
        for (int i = 0; i < plan.many; i++) {
            int found = plan.takesPlace(book.meetings[one], i) ? firstClash(one, i, other) : -1;
            if (found >= 0) {
                return 100 * i + found;
            }
        }
        return -1;
    }

    public int agenda(int instant, int index) throws IllegalArgumentException, NoSuchElementException {
        needArgument(isInstant(instant));
        int many = listBeginnings(instant);
        needElement(index >= 0 && index < many);
        sortKeys(beginningKeys, many);
        int entry = (int) (beginningKeys[index] % MOST_BEGINNINGS);
        return 100 * (entry / MOST_OCCURRENCES) + entry % MOST_OCCURRENCES;
    }

    public int drift(int meeting, int zone) throws IndexOutOfBoundsException {
        needMeeting(meeting);
        needZone(zone);
        Meeting rows = book.meetings[meeting];
        Plan plan = timed(meeting);
        Timeline line = compiled(zone);
        int many = 0;
        for (int i = 0; i < plan.many; i++) {
            if (plan.takesPlace(rows, i)) {
                int local = plan.begins[i] + line.offsetAt(plan.begins[i]);
                many = addKey(beginningKeys, many, Math.floorMod(local, DAY));
            }
        }
        return many;
    }

    public int free(int from, int until, int minutes) throws IllegalArgumentException, NoSuchElementException {
        needArgument(isInstant(from) && isInstant(until) && minutes >= 1 && minutes <= DAY);
        // No occurrence lasts longer than a day, so earlier ones are over.
        int many = listBeginnings(from - DAY);
        sortKeys(beginningKeys, many);
        int start = from;
        for (int i = 0; i < many; i++) {
            int begin = (int) (beginningKeys[i] / MOST_BEGINNINGS) + FIRST_INSTANT;
            int meeting = (int) (beginningKeys[i] % MOST_BEGINNINGS) / MOST_OCCURRENCES;
            if (begin < start + minutes) {
                start = Math.max(start, begin + book.meetings[meeting].duration);
            }
        }
        needElement(start + minutes <= until);
        return start;
    }

    // ---- texts

    public int append(int packed) throws IllegalArgumentException, IllegalStateException {
        int many = 0;
        for (int place = 24; place >= 0; place -= 8) {
            int letter = packed >> place & 255;
            needArgument(letter == 0 || letter >= 33 && letter <= 126);
            many += letter == 0 ? 0 : 1;
        }
        refuse(reader.length + many <= MOST_LETTERS ? FINE : NOT_NOW);
        for (int place = 24; place >= 0; place -= 8) {
            reader.put((char) (packed >> place & 255));
        }
        return reader.length;
    }

    public int run() throws IllegalArgumentException, IllegalStateException {
        boolean read = reader.readText();
        reader.length = 0;
        needArgument(read);
        history.keep(book);
        int carried = 0;
        while (carried < reader.commands && carryOut(carried)) {
            carried++;
        }
        if (carried < reader.commands) {
            reader.wrong = reader.startOf(carried);
            history.giveUp(book);
            spoilAll();
            throw new IllegalStateException("a command can't be carried out");
        }
        history.push();
        return carried;
    }

    public int errorPosition() {
        return reader.wrong;
    }

    public int write(int zone, int rule) throws IndexOutOfBoundsException {
        refuse(ruleIndexFault(zone, rule));
        writer.writeRule(book.zones[zone], rule);
        return writer.length;
    }

    public char character(int index) throws IndexOutOfBoundsException {
        needIndex(index >= 0 && index < writer.length);
        return writer.letters[index];
    }

    // ---- undo and saving

    public int undo() throws IllegalStateException {
        refuse(history.many > 0 ? FINE : NOT_NOW);
        history.pop(book);
        spoilAll();
        return history.many;
    }

    public int save() {
        history.saved.copyFrom(book);
        history.hasSaved = true;
        return book.zoneCount;
    }

    public int restore() throws IllegalStateException {
        refuse(history.hasSaved ? FINE : NOT_NOW);
        book.copyFrom(history.saved);
        history.many = 0;
        spoilAll();
        return book.zoneCount;
    }

    public int count(int what) throws IllegalArgumentException {
        needArgument(what >= 0 && what <= 5);
        switch (what) {
            case 0: return book.zoneCount;
            case 1: return book.meetingCount;
            case 2: return countOccurrences();
            case 3: return countTaking();
            case 4: return history.many;
            default: return reader.length;
        }
    }

    // ---- what calls need

    private static void refuse(int fault) {
        needIndex(fault != NO_INDEX);
        needArgument(fault != NO_ARGUMENT);
        if (fault == NOT_NOW) {
            throw new IllegalStateException("this can't be done now");
        }
    }

    private static void needIndex(boolean there) {
        if (!there) {
            throw new IndexOutOfBoundsException("no such index");
        }
    }

    private static void needArgument(boolean fits) {
        if (!fits) {
            throw new IllegalArgumentException("no such number");
        }
    }

    private static void needElement(boolean there) {
        if (!there) {
            throw new NoSuchElementException("there is none");
        }
    }

    private static int needInstant(int instant) {
        if (instant == NONE) {
            throw new UnsupportedOperationException("the mode tells no instant");
        }
        return instant;
    }

    private void needZone(int zone) {
        needIndex(hasZone(zone));
    }

    private void needMeeting(int meeting) {
        needIndex(meeting >= 0 && meeting < book.meetingCount);
    }

    private boolean hasZone(int zone) {
        return zone >= 0 && zone < book.zoneCount;
    }

    private static boolean isYear(int year) {
        return year >= 0 && year < YEARS;
    }

    private static boolean isMonth(int month) {
        return month >= 1 && month <= 12;
    }

    private static boolean isDay(int day) {
        return day >= 0 && day <= LAST_DAY;
    }

    private static boolean isLocal(int local) {
        return local >= 0 && local < LOCALS;
    }

    private static boolean isInstant(int instant) {
        return instant >= FIRST_INSTANT && instant <= LAST_INSTANT;
    }

    private static boolean isBase(int base) {
        return base >= LEAST_BASE && base <= GREATEST_BASE;
    }

    private static boolean isMode(int mode) {
        return mode >= 0 && mode <= 3;
    }

    private static boolean isDate(int date) {
        if (date < 100) {
            return date >= 1 && date <= 31;
        }
        if (date < 1000) {
            return date / 100 <= 5 && date % 100 <= 6;
        }
        return date >= 1010 && date <= 1316 && date % 10 <= 6;
    }

    private static int greatestStep(int kind) {
        switch (kind) {
            case 0: return 60;
            case 1: return 8;
            default: return 24;
        }
    }

    // ---- changes, which commands make too: first what is wrong with one, then the change itself

    private int zoneFault(int base) {
        if (!isBase(base)) {
            return NO_ARGUMENT;
        }
        return book.zoneCount < MOST_ZONES ? FINE : NOT_NOW;
    }

    private int putZone(int base) {
        int zone = book.zoneCount;
        book.zones[zone].begin(base);
        book.zoneCount = zone + 1;
        spoil(zone);
        return zone;
    }

    private int changeFault(int zone, int day, int base) {
        if (!hasZone(zone)) {
            return NO_INDEX;
        }
        if (!isDay(day) || !isBase(base)) {
            return NO_ARGUMENT;
        }
        return book.zones[zone].changes < MOST_CHANGES ? FINE : NOT_NOW;
    }

    private int putChange(int zone, int day, int base) {
        int change = book.zones[zone].putChange(day, base);
        spoil(zone);
        return change;
    }

    private int ruleFault(int zone, int years, int month, int date, int when, int saving) {
        if (!hasZone(zone)) {
            return NO_INDEX;
        }
        boolean goodYears = years >= 0 && years / 100 < YEARS && years % 100 < YEARS && years / 100 <= years % 100;
        boolean goodWhen = when >= 0 && when / 10 < DAY && when % 10 <= INSTANTS;
        boolean goodSaving = saving >= 0 && saving <= GREATEST_SAVING;
        if (!goodYears || !isMonth(month) || !isDate(date) || !goodWhen || !goodSaving) {
            return NO_ARGUMENT;
        }
        return book.zones[zone].rules < MOST_RULES ? FINE : NOT_NOW;
    }

    private int putRule(int zone, int years, int month, int date, int when, int saving) {
        int rule = book.zones[zone].putRule(years, month, date, when, saving);
        spoil(zone);
        return rule;
    }

    private int ruleIndexFault(int zone, int rule) {
        return hasZone(zone) && rule >= 0 && rule < book.zones[zone].rules ? FINE : NO_INDEX;
    }

    private int takeRule(int zone, int rule) {
        book.zones[zone].takeRule(rule);
        spoil(zone);
        return book.zones[zone].rules;
    }

    private int occurrenceFault(int meeting, int occurrence) {
        boolean there = meeting >= 0 && meeting < book.meetingCount
                && occurrence >= 0 && occurrence < laidOut(meeting).many;
        return there ? FINE : NO_INDEX;
    }

    private int turnCancelled(int meeting, int occurrence) {
        book.meetings[meeting].cancelled ^= 1L << occurrence;
        return book.meetings[meeting].isCancelled(occurrence) ? 1 : 0;
    }

    private void remember() {
        history.keep(book);
        history.push();
    }

    // ---- commands

    private boolean carryOut(int command) {
        int first = reader.item(command, 0);
        int second = reader.item(command, 1);
        switch (reader.wordOf(command)) {
            case ZONE_WORD: return zoneFault(first) == FINE && putZone(first) >= 0;
            case BASE_WORD: return carryOutBase(first, second, reader.item(command, 2));
            case RULE_WORD: return carryOutRule(command);
            case DROP_WORD: return ruleIndexFault(first, second) == FINE && takeRule(first, second) >= 0;
            default: return occurrenceFault(first, second) == FINE && turnCancelled(first, second) >= 0;
        }
    }

    private boolean carryOutBase(int zone, int day, int base) {
        return changeFault(zone, day, base) == FINE && putChange(zone, day, base) >= 0;
    }

    private boolean carryOutRule(int command) {
        int zone = reader.item(command, 0);
        int firstYear = reader.item(command, 1) - TEXT_YEAR;
        int lastYear = reader.item(command, 2) - TEXT_YEAR;
        if (!isYear(firstYear) || !isYear(lastYear)) {
            return false;
        }
        int years = 100 * firstYear + lastYear;
        int month = reader.item(command, 3);
        int date = reader.item(command, 4);
        int when = 10 * reader.item(command, 5) + reader.item(command, 6);
        int saving = reader.item(command, 7);
        return ruleFault(zone, years, month, date, when, saving) == FINE
                && putRule(zone, years, month, date, when, saving) >= 0;
    }

    // ---- what is compiled from zones and meetings, anew only when it is asked for

    private Timeline compiled(int zone) {
        Timeline line = timelines[zone];
        if (!line.fresh) {
            Zone rows = book.zones[zone];
            int many = rows.listEvents(eventKeys);
            sortKeys(eventKeys, many);
            line.compile(rows, eventKeys, many, force);
        }
        return line;
    }

    private Plan laidOut(int meeting) {
        Plan plan = plans[meeting];
        if (!plan.laid) {
            plan.layOut(book.meetings[meeting]);
        }
        return plan;
    }

    private Plan timed(int meeting) {
        Plan plan = laidOut(meeting);
        if (!plan.timed) {
            plan.time(book.meetings[meeting], compiled(book.meetings[meeting].zone));
        }
        return plan;
    }

    private void spoil(int zone) {
        timelines[zone].fresh = false;
        for (int i = 0; i < MOST_MEETINGS; i++) {
            plans[i].timed = false;
        }
    }

    private void spoilAll() {
        for (int i = 0; i < MOST_ZONES; i++) {
            timelines[i].fresh = false;
        }
        for (int i = 0; i < MOST_MEETINGS; i++) {
            plans[i].spoil();
        }
    }

    // ---- occurrences

    private static int stateOf(Meeting rows, Plan plan, int occurrence) {
        if (rows.isCancelled(occurrence)) {
            return 1;
        }
        return plan.takesPlace(rows, occurrence) ? 0 : 2;
    }

    private int firstClash(int one, int occurrence, int other) {
        Meeting rows = book.meetings[other];
        Plan plan = plans[other];
        int begin = plans[one].begins[occurrence];
        int end = begin + book.meetings[one].duration;
        for (int i = one == other ? occurrence + 1 : 0; i < plan.many; i++) {
            if (plan.takesPlace(rows, i) && plan.begins[i] < end && begin < plan.begins[i] + rows.duration) {
                return i;
            }
        }
        return -1;
    }

    /** A key holds the beginning, then the meeting, then the occurrence, so that keys sort like the agenda. */
    private int listBeginnings(int instant) {
        int many = 0;
        for (int meeting = 0; meeting < book.meetingCount; meeting++) {
            Meeting rows = book.meetings[meeting];
            Plan plan = timed(meeting);
            for (int i = 0; i < plan.many; i++) {
                if (plan.takesPlace(rows, i) && plan.begins[i] >= instant && many < beginningKeys.length) {
                    long begin = plan.begins[i] - FIRST_INSTANT;
                    beginningKeys[many] = begin * MOST_BEGINNINGS + meeting * MOST_OCCURRENCES + i;
                    many++;
                }
            }
        }
        return many;
    }

    private int countOccurrences() {
        int many = 0;
        for (int meeting = 0; meeting < book.meetingCount; meeting++) {
            many += laidOut(meeting).many;
        }
        return many;
    }

    private int countTaking() {
        int many = 0;
        for (int meeting = 0; meeting < book.meetingCount; meeting++) {
            many += timed(meeting).countTaking(book.meetings[meeting]);
        }
        return many;
    }

    // ---- keys

    /** A key that is there already is not put again, since each different one counts once. */
    private static int addKey(long[] keys, int many, long key) {
        for (int i = 0; i < many; i++) {
            if (keys[i] == key) {
                return many;
            }
        }
        if (many >= keys.length) {
            return many;
        }
        keys[many] = key;
        return many + 1;
    }

    private static void sortKeys(long[] keys, int many) {
        int end = Math.min(many, keys.length);
        for (int gap = end / 2; gap > 0; gap /= 2) {
            for (int i = gap; i < end; i++) {
                long key = keys[i];
                int at = i;
                while (at >= gap && keys[at - gap] > key) {
                    keys[at] = keys[at - gap];
                    at -= gap;
                }
                keys[at] = key;
            }
        }
    }

    private static final class Calendar {

        private static final int[] MONTH_STARTS = {0, 31, 59, 90, 120, 151, 181, 212, 243, 273, 304, 334, 365};

        private Calendar() {
        }

        static int yearStart(int year) {
            return 365 * year + (year + 3) / 4;
        }

        static int yearOf(int day) {
            int rest = day % 1461;
            return day / 1461 * 4 + (rest < 366 ? 0 : (rest - 1) / 365);
        }

        static int monthOf(int year, int day) {
            int dayOfYear = day - 365 * year - (year + 3) / 4;
            int month = 1;
            for (int i = 1; i < 12; i++) {
                int leap = year % 4 == 0 && i > 1 ? 1 : 0;
                month += dayOfYear >= MONTH_STARTS[i] + leap ? 1 : 0;
            }
            return month;
        }

        static int monthStart(int year, int month) {
            int leap = year % 4 == 0 && month > 2 ? 1 : 0;
            return 365 * year + (year + 3) / 4 + MONTH_STARTS[month - 1] + leap;
        }

        static int monthLength(int year, int month) {
            int leap = year % 4 == 0 && month == 2 ? 1 : 0;
            return MONTH_STARTS[month] - MONTH_STARTS[month - 1] + leap;
        }

        static int weekday(int day) {
            return (day + 5) % 7;
        }

        static int weekdayFrom(int day, int weekday) {
            return day + (weekday - (day + 5) % 7 + 7) % 7;
        }

        /** Answers -1 if the month has no such day. */
        static int dayOfDate(int year, int month, int date) {
            int start = monthStart(year, month);
            int end = start + monthLength(year, month);
            int day;
            if (date <= 31) {
                day = start + date - 1;
            } else if (date < 500) {
                day = weekdayFrom(start, date % 100) + 7 * (date / 100 - 1);
            } else if (date < 1000) {
                day = weekdayFrom(end - 7, date % 100);
            } else {
                day = weekdayFrom(start + (date - 1000) / 10 - 1, date % 10);
            }
            return day < end ? day : -1;
        }
    }

    /** Only what was told of a zone: what is compiled from it lies in Timeline, so that undo has little to copy. */
    private static final class Zone {

        int base;
        int rules;
        int changes;
        final int[] ruleRow = new int[MOST_RULES * RULE_NUMBERS];
        final int[] changeDays = new int[MOST_CHANGES];
        final int[] changeBases = new int[MOST_CHANGES];

        void begin(int firstBase) {
            base = firstBase;
            rules = 0;
            changes = 0;
        }

        void copyFrom(Zone other) {
            base = other.base;
            rules = other.rules;
            changes = other.changes;
            System.arraycopy(other.ruleRow, 0, ruleRow, 0, rules * RULE_NUMBERS);
            System.arraycopy(other.changeDays, 0, changeDays, 0, changes);
            System.arraycopy(other.changeBases, 0, changeBases, 0, changes);
        }

        int putChange(int day, int newBase) {
            changeDays[changes] = day;
            changeBases[changes] = newBase;
            changes++;
            return changes - 1;
        }

        int putRule(int years, int month, int date, int when, int saving) {
            int at = rules * RULE_NUMBERS;
            ruleRow[at + FIRST_YEAR] = years / 100;
            ruleRow[at + FINAL_YEAR] = years % 100;
            ruleRow[at + MONTH] = month;
            ruleRow[at + DATE] = date;
            ruleRow[at + MINUTE] = when / 10;
            ruleRow[at + CLOCK] = when % 10;
            ruleRow[at + SAVING] = saving;
            rules++;
            return rules - 1;
        }

        void takeRule(int rule) {
            int behind = (rule + 1) * RULE_NUMBERS;
            System.arraycopy(ruleRow, behind, ruleRow, rule * RULE_NUMBERS, rules * RULE_NUMBERS - behind);
            rules--;
        }

        int ruleNumber(int rule, int what) {
            return ruleRow[rule * RULE_NUMBERS + what];
        }

        /** Answers -1 if the rule has no event in the year. */
        int dayOfEvent(int rule, int year) {
            int at = rule * RULE_NUMBERS;
            if (year < ruleRow[at + FIRST_YEAR] || year > ruleRow[at + FINAL_YEAR]) {
                return -1;
            }
            return Calendar.dayOfDate(year, ruleRow[at + MONTH], ruleRow[at + DATE]);
        }

        int listEvents(long[] keys) {
            int many = 0;
            for (int change = 0; change < changes; change++) {
                many = putKey(keys, many, changeDays[change], change);
            }
            for (int rule = 0; rule < rules; rule++) {
                int month = ruleNumber(rule, MONTH);
                int date = ruleNumber(rule, DATE);
                int end = ruleNumber(rule, FINAL_YEAR);
                for (int year = ruleNumber(rule, FIRST_YEAR); year <= end; year++) {
                    int day = Calendar.dayOfDate(year, month, date);
                    many = putKey(keys, many, day, MOST_CHANGES + rule);
                }
            }
            return many;
        }

        int listEventsOfYear(int year, long[] keys) {
            int many = 0;
            for (int change = 0; change < changes; change++) {
                int day = changeDays[change];
                boolean inYear = day >= Calendar.yearStart(year) && day < Calendar.yearStart(year + 1);
                many = putKey(keys, many, inYear ? day : -1, change);
            }
            for (int rule = 0; rule < rules; rule++) {
                many = putKey(keys, many, dayOfEvent(rule, year), MOST_CHANGES + rule);
            }
            return many;
        }

        /** The day -1 is that of no event. */
        private int putKey(long[] keys, int many, int day, int source) {
            if (day < 0 || many >= keys.length) {
                return many;
            }
            int minute = source < MOST_CHANGES ? 0 : ruleNumber(source - MOST_CHANGES, MINUTE);
            keys[many] = (long) (DAY * day + minute) * SOURCES + source;
            return many + 1;
        }
    }

    /** What is in force while events are taken; apart from Timeline, because offsetAgain goes without one. */
    private static final class Force {

        int base;
        int saving;
        /** The instant of the event taken latest, also of a void one. */
        int start;
        private boolean moved;
        private int latest;

        void begin(int firstBase) {
            base = firstBase;
            saving = 0;
            moved = false;
        }

        int take(Zone zone, long key) {
            int source = (int) (key % SOURCES);
            boolean change = source < MOST_CHANGES;
            int clock = change ? WALL : zone.ruleNumber(source - MOST_CHANGES, CLOCK);
            start = (int) (key / SOURCES) - (clock == INSTANTS ? 0 : base) - (clock == WALL ? saving : 0);
            if (moved && latest >= start) {
                return VOID;
            }
            int before = base + saving;
            if (change) {
                base = zone.changeBases[source];
            } else {
                saving = zone.ruleNumber(source - MOST_CHANGES, SAVING);
            }
            if (base + saving == before) {
                return QUIET;
            }
            moved = true;
            latest = start;
            return TRANSITION;
        }
    }

    /** The transitions cut the instants into spans of one offset each: the span k lies behind k transitions. */
    private static final class Timeline {

        boolean fresh;
        int events;
        int transitions;
        int voids;
        int greatest;
        int least;
        final int[] starts = new int[MOST_EVENTS];
        final int[] savings = new int[MOST_EVENTS];
        final int[] sources = new int[MOST_EVENTS];
        final int[] voidTimes = new int[MOST_EVENTS];
        final int[] voidStarts = new int[MOST_EVENTS];
        final int[] voidSources = new int[MOST_EVENTS];
        private final int[] offsets = new int[MOST_EVENTS + 1];
        /** What the latest look found; kept here, so that no look makes an object. */
        int found;
        private int first;
        private int last;

        void compile(Zone zone, long[] keys, int many, Force force) {
            events = many;
            transitions = 0;
            voids = 0;
            greatest = zone.base;
            least = zone.base;
            offsets[0] = zone.base;
            force.begin(zone.base);
            for (int i = 0; i < many; i++) {
                int outcome = force.take(zone, keys[i]);
                if (outcome == VOID) {
                    putVoid(keys[i], force);
                } else if (outcome == TRANSITION) {
                    putTransition(keys[i], force);
                }
            }
            fresh = true;
        }

        private void putVoid(long key, Force force) {
            voidTimes[voids] = (int) (key / SOURCES);
            voidStarts[voids] = force.start;
            voidSources[voids] = sourceOf(key);
            voids++;
        }

        private void putTransition(long key, Force force) {
            int offset = force.base + force.saving;
            starts[transitions] = force.start;
            savings[transitions] = force.saving;
            sources[transitions] = sourceOf(key);
            transitions++;
            offsets[transitions] = offset;
            greatest = Math.max(greatest, offset);
            least = Math.min(least, offset);
        }

        private static int sourceOf(long key) {
            int source = (int) (key % SOURCES);
            return source < MOST_CHANGES ? 100 + source : source - MOST_CHANGES;
        }

        int offsetIn(int span) {
            return offsets[span];
        }

        int offsetAt(int instant) {
            return offsets[spanAt(instant)];
        }

        private int spanAt(int instant) {
            int low = 0;
            int high = transitions;
            while (low < high) {
                int middle = (low + high) / 2;
                if (starts[middle] <= instant) {
                    low = middle + 1;
                } else {
                    high = middle;
                }
            }
            return low;
        }

        private boolean spanHolds(int span, int instant) {
            return (span == 0 || starts[span - 1] <= instant) && (span == transitions || instant < starts[span]);
        }

        /** Spans that no offset of the zone brings near the local time are passed over, for there can be many. */
        void look(int local) {
            found = 0;
            first = NONE;
            last = NONE;
            int latest = local - least;
            for (int span = spanAt(local - greatest); span <= transitions; span++) {
                if (span > 0 && starts[span - 1] > latest) {
                    break;
                }
                int instant = local - offsets[span];
                if (spanHolds(span, instant)) {
                    first = found == 0 ? instant : first;
                    last = instant;
                    found++;
                }
            }
        }

        /** Answers -1 if the local time lies in no gap. */
        private int gapOf(int local) {
            for (int i = spanAt(local - greatest); i < transitions; i++) {
                if (starts[i] + offsets[i] <= local && starts[i] + offsets[i + 1] > local) {
                    return i;
                }
            }
            return -1;
        }

        int causeOf(int local) {
            look(local);
            if (found == 0) {
                return gapOf(local);
            }
            return found == 1 ? -1 : spanAt(first);
        }

        /** Answers NONE if the mode tells none. */
        int instantOf(int local, int mode) {
            look(local);
            if (found == 1) {
                return first;
            }
            if (mode == 3) {
                return NONE;
            }
            if (found > 1) {
                return mode == 1 ? last : first;
            }
            int gap = gapOf(local);
            if (gap < 0) {
                return NONE;
            }
            return mode == 2 ? starts[gap] : local - offsets[gap + mode];
        }

        int beginningOf(int day) {
            return instantOf(DAY * day, 2);
        }

        /**
         * The minutes in gaps, or the instants, less 1, of the minutes in folds. Goes from edge to edge, since between
         * two of them all local times have equally many instants.
         */
        int countMinutes(int from, int until, boolean inGaps) {
            int sum = 0;
            int at = from;
            for (int step = 0; step <= 2 * transitions && at < until; step++) {
                int end = nextEdge(at, until);
                look(at);
                int each = inGaps ? 1 - found : found - 1;
                sum += Math.max(each, 0) * (end - at);
                at = end;
            }
            return sum;
        }

        private int nextEdge(int local, int most) {
            int edge = most;
            for (int i = spanAt(local - greatest); i < transitions && starts[i] + least < edge; i++) {
                edge = earlierEdge(local, starts[i] + offsets[i], edge);
                edge = earlierEdge(local, starts[i] + offsets[i + 1], edge);
            }
            return edge;
        }

        private static int earlierEdge(int local, int candidate, int edge) {
            return candidate > local && candidate < edge ? candidate : edge;
        }
    }

    /** Only what was told of a meeting: what follows from it lies in Plan, so that undo has little to copy. */
    private static final class Meeting {

        int zone;
        int day;
        int minute;
        int duration;
        int mode;
        int many;
        int kind;
        int step;
        int set;
        /** Bit i tells whether the occurrence i is cancelled. */
        long cancelled;
        final int[] shifts = new int[MOST_OCCURRENCES];

        void begin(int newZone, int newDay, int newMinute, int newDuration, int newMode, int newMany) {
            zone = newZone;
            day = newDay;
            minute = newMinute;
            duration = newDuration;
            mode = newMode;
            many = newMany;
            repeat(0, 1, 0);
        }

        void repeat(int newKind, int newStep, int newSet) {
            kind = newKind;
            step = newStep;
            set = newSet;
            cancelled = 0;
            for (int i = 0; i < MOST_OCCURRENCES; i++) {
                shifts[i] = 0;
            }
        }

        void copyFrom(Meeting other) {
            zone = other.zone;
            day = other.day;
            minute = other.minute;
            duration = other.duration;
            mode = other.mode;
            many = other.many;
            kind = other.kind;
            step = other.step;
            set = other.set;
            cancelled = other.cancelled;
            System.arraycopy(other.shifts, 0, shifts, 0, MOST_OCCURRENCES);
        }

        boolean isCancelled(int occurrence) {
            return (cancelled >> occurrence & 1) != 0;
        }
    }

    /** The days are laid out apart from their instants, which other rules of the zone change too. */
    private static final class Plan {

        boolean laid;
        boolean timed;
        int many;
        final int[] days = new int[MOST_OCCURRENCES];
        /** NONE for an occurrence that is void. */
        final int[] begins = new int[MOST_OCCURRENCES];

        void spoil() {
            laid = false;
            timed = false;
        }

        void layOut(Meeting meeting) {
            many = 0;
            switch (meeting.kind) {
                case 0: layDays(meeting); break;
                case 1: layWeeks(meeting); break;
                default: layMonths(meeting); break;
            }
            laid = true;
        }

        private void layDays(Meeting meeting) {
            for (int i = 0; i < meeting.many; i++) {
                putDay(meeting, meeting.day + i * meeting.step);
            }
        }

        private void layWeeks(Meeting meeting) {
            int monday = meeting.day - Calendar.weekday(meeting.day);
            while (monday <= LAST_DAY && many < meeting.many) {
                for (int weekday = 0; weekday < 7; weekday++) {
                    if ((meeting.set >> weekday & 1) != 0) {
                        putDay(meeting, monday + weekday);
                    }
                }
                monday += 7 * Math.max(meeting.step, 1);
            }
        }

        private void layMonths(Meeting meeting) {
            int year = Calendar.yearOf(meeting.day);
            int firstMonth = 12 * year + Calendar.monthOf(year, meeting.day) - 1;
            int index = meeting.day - Calendar.monthStart(year, firstMonth % 12 + 1);
            int weekday = Calendar.weekday(meeting.day);
            int step = Math.max(meeting.step, 1);
            for (int month = firstMonth; month < MONTHS && many < meeting.many; month += step) {
                int start = Calendar.monthStart(month / 12, month % 12 + 1);
                int end = start + Calendar.monthLength(month / 12, month % 12 + 1);
                int day = meeting.kind == 2 ? start + index
                        : Calendar.weekdayFrom(start, weekday) + index / 7 * 7;
                if (day < end) {
                    putDay(meeting, day);
                }
            }
        }

        private void putDay(Meeting meeting, int day) {
            if (day >= meeting.day && day <= LAST_DAY && many < meeting.many && many < days.length) {
                days[many] = day;
                many++;
            }
        }

        void time(Meeting meeting, Timeline line) {
            for (int i = 0; i < many; i++) {
                int local = localOf(meeting, i);
                begins[i] = isLocal(local) ? line.instantOf(local, meeting.mode) : NONE;
            }
            timed = true;
        }

        int localOf(Meeting meeting, int occurrence) {
            return DAY * days[occurrence] + meeting.minute + meeting.shifts[occurrence];
        }

        boolean takesPlace(Meeting meeting, int occurrence) {
            return begins[occurrence] != NONE && !meeting.isCancelled(occurrence);
        }

        int countTaking(Meeting meeting) {
            int taking = 0;
            for (int i = 0; i < many; i++) {
                taking += takesPlace(meeting, i) ? 1 : 0;
            }
            return taking;
        }
    }

    /** Whatever undo and saving bring back, and nothing else. */
    private static final class Book {

        int zoneCount;
        int meetingCount;
        final Zone[] zones = new Zone[MOST_ZONES];
        final Meeting[] meetings = new Meeting[MOST_MEETINGS];

        Book() {
            for (int i = 0; i < MOST_ZONES; i++) {
                zones[i] = new Zone();
            }
            for (int i = 0; i < MOST_MEETINGS; i++) {
                meetings[i] = new Meeting();
            }
        }

        void copyFrom(Book other) {
            zoneCount = other.zoneCount;
            meetingCount = other.meetingCount;
            for (int i = 0; i < zoneCount; i++) {
                zones[i].copyFrom(other.zones[i]);
            }
            for (int i = 0; i < meetingCount; i++) {
                meetings[i].copyFrom(other.meetings[i]);
            }
        }
    }

    /** One book more than can be undone is kept, so that a run that fails goes back and costs no undo. */
    private static final class History {

        int many;
        boolean hasSaved;
        final Book saved = new Book();
        private int spare;
        private final Book[] books = new Book[MOST_UNDO + 1];

        History() {
            for (int i = 0; i <= MOST_UNDO; i++) {
                books[i] = new Book();
            }
        }

        void keep(Book book) {
            books[spare].copyFrom(book);
        }

        void giveUp(Book book) {
            book.copyFrom(books[spare]);
        }

        void push() {
            spare = (spare + 1) % (MOST_UNDO + 1);
            many = Math.min(many + 1, MOST_UNDO);
        }

        void pop(Book book) {
            spare = (spare + MOST_UNDO) % (MOST_UNDO + 1);
            book.copyFrom(books[spare]);
            many--;
        }
    }

    private static final class Reader {

        /** The shortest command has 7 characters; one more place is for one that is begun but can't be whole. */
        private static final int MOST_COMMANDS = MOST_LETTERS / 7 + 1;
        private static final int MOST_ITEMS = 8;
        /** A command's row: its word, the index of its first letter, its items. */
        private static final int COMMAND_NUMBERS = 2 + MOST_ITEMS;

        int length;
        int commands;
        /** The error position: -1 while nothing is wrong. */
        int wrong = -1;
        private int at;
        private final char[] letters = new char[MOST_LETTERS];
        private final int[] commandRow = new int[MOST_COMMANDS * COMMAND_NUMBERS];

        void put(char letter) {
            if (letter != 0 && length < letters.length) {
                letters[length] = letter;
                length++;
            }
        }

        int wordOf(int command) {
            return commandRow[command * COMMAND_NUMBERS];
        }

        int startOf(int command) {
            return commandRow[command * COMMAND_NUMBERS + 1];
        }

        int item(int command, int index) {
            return commandRow[command * COMMAND_NUMBERS + 2 + index];
        }

        boolean readText() {
            at = 0;
            wrong = -1;
            commands = 0;
            do {
                readCommand(commands * COMMAND_NUMBERS);
                commands++;
            } while (wrong < 0 && at < length && commands < MOST_COMMANDS);
            return wrong < 0;
        }

        private void readCommand(int row) {
            commandRow[row + 1] = at;
            int word = readWord();
            if (wrong >= 0) {
                return;
            }
            commandRow[row] = word;
            readSign(':');
            String kinds = kindsOf(word);
            int many = kinds.length();
            for (int i = 0; i < many && wrong < 0; i++) {
                commandRow[row + 2 + i] = readItem(kinds.charAt(i));
                readSign(i + 1 < many ? ',' : ';');
            }
        }

        private int readWord() {
            int start = at;
            int end = at;
            while (end < length && letterAt(end) >= 'a' && letterAt(end) <= 'z') {
                end++;
            }
            for (int word = 0; word < WORDS; word++) {
                if (isWord(start, end, nameOf(word))) {
                    at = end;
                    return word;
                }
            }
            wrong = start;
            return NO_WORD;
        }

        private boolean isWord(int start, int end, String name) {
            if (end - start != name.length()) {
                return false;
            }
            for (int i = 0; i < name.length(); i++) {
                if (letterAt(start + i) != name.charAt(i)) {
                    return false;
                }
            }
            return true;
        }

        private static String nameOf(int word) {
            switch (word) {
                case ZONE_WORD: return "zone";
                case BASE_WORD: return "base";
                case RULE_WORD: return "rule";
                case DROP_WORD: return "drop";
                default: return "cancel";
            }
        }

        /** The kinds of a command's items: n a number, b a base, d a date, c a clock. */
        private static String kindsOf(int word) {
            switch (word) {
                case ZONE_WORD: return "b";
                case BASE_WORD: return "nnb";
                case RULE_WORD: return "nnnndncn";
                default: return "nn";
            }
        }

        private int readItem(char kind) {
            if (wrong >= 0) {
                return 0;
            }
            switch (kind) {
                case 'b': return readBase();
                case 'd': return readDate();
                case 'c': return readClock();
                default: return readNumber(5);
            }
        }

        private int readBase() {
            if (letterAt(at) != '-') {
                return readNumber(5);
            }
            at++;
            return -readNumber(5);
        }

        /** A number ends behind a leading 0, so that a digit there is the wrong character. */
        private int readNumber(int mostDigits) {
            int value = 0;
            int digits = 0;
            while (digits < mostDigits && letterAt(at) >= '0' && letterAt(at) <= '9' && (digits == 0 || value > 0)) {
                value = 10 * value + letterAt(at) - '0';
                digits++;
                at++;
            }
            if (digits == 0) {
                wrong = at;
            }
            return value;
        }

        private int readDate() {
            int digit = letterAt(at) - '0';
            char sign = letterAt(at + 1);
            if (letterAt(at) == 'l') {
                at++;
                return 500 + readWeekday();
            }
            if (sign == 'x' && digit >= 1 && digit <= 4) {
                at += 2;
                return 100 * digit + readWeekday();
            }
            if (sign == '>' && digit >= 0 && digit <= 6) {
                // A day that no month has gives a number that is no date either.
                at += 2;
                return 1000 + 10 * readNumber(2) + digit;
            }
            int day = readNumber(5);
            return day <= 31 ? day : NO_DATE;
        }

        private int readWeekday() {
            int weekday = letterAt(at) - '0';
            if (weekday < 0 || weekday > 6) {
                wrong = at;
                return 0;
            }
            at++;
            return weekday;
        }

        private int readClock() {
            int clock;
            switch (letterAt(at)) {
                case 'w': clock = 0; break;
                case 'b': clock = 1; break;
                case 'i': clock = 2; break;
                default: wrong = at; return 0;
            }
            at++;
            return clock;
        }

        private void readSign(char sign) {
            if (wrong >= 0) {
                return;
            }
            if (letterAt(at) == sign) {
                at++;
            } else {
                wrong = at;
            }
        }

        /** The character at an index, or one that no text has. */
        private char letterAt(int index) {
            return index >= 0 && index < length && index < letters.length ? letters[index] : 0;
        }
    }

    private static final class Writer {

        int length;
        final char[] letters = new char[MOST_LETTERS];

        void writeRule(Zone zone, int rule) {
            length = 0;
            putNumber(TEXT_YEAR + zone.ruleNumber(rule, FIRST_YEAR));
            put(',');
            putNumber(TEXT_YEAR + zone.ruleNumber(rule, FINAL_YEAR));
            put(',');
            putNumber(zone.ruleNumber(rule, MONTH));
            put(',');
            putDate(zone.ruleNumber(rule, DATE));
            put(',');
            putNumber(zone.ruleNumber(rule, MINUTE));
            put(',');
            putClock(zone.ruleNumber(rule, CLOCK));
            put(',');
            putNumber(zone.ruleNumber(rule, SAVING));
        }

        private void putDate(int date) {
            if (date <= 31) {
                putNumber(date);
            } else if (date < 500) {
                putNumber(date / 100);
                put('x');
                putNumber(date % 100);
            } else if (date < 1000) {
                put('l');
                putNumber(date % 100);
            } else {
                putNumber(date % 10);
                put('>');
                putNumber((date - 1000) / 10);
            }
        }

        private void putClock(int clock) {
            switch (clock) {
                case 0: put('w'); break;
                case 1: put('b'); break;
                default: put('i'); break;
            }
        }

        private void putNumber(int number) {
            for (int unit = 1000; unit > 1; unit /= 10) {
                if (number >= unit) {
                    put((char) ('0' + number / unit % 10));
                }
            }
            put((char) ('0' + number % 10));
        }

        private void put(char letter) {
            if (length < letters.length) {
                letters[length] = letter;
                length++;
            }
        }
    }
}
