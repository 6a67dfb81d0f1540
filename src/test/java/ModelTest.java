import java.lang.reflect.InvocationTargetException;
import java.lang.reflect.Method;
import java.util.ArrayList;
import java.util.Arrays;
import java.util.HashMap;
import java.util.List;
import java.util.Map;

/**
 * Runs of calls with many kinds of arguments, answered by ZoneCompiler and by PlainModel: both must answer alike.
 * The numbers come from a fixed sequence, so that a run is the same each time. Arguments: the number of runs, the first.
 */
public final class ModelTest {

    private static final int CALLS = 512;
    private static final String[] FACE = {
        "day", "date", "addZone", "changeBase", "addRule", "dropRule", "zone", "rule", "eventDay", "transition",
        "voidEvent", "offset", "offsetAgain", "toLocal", "instants", "instantsAgain", "cause", "toInstant", "convert",
        "dayLength", "account", "addMeeting", "recur", "cancel", "shift", "meeting", "occurrence", "next", "clash",
        "agenda", "drift", "free", "append", "run", "errorPosition", "write", "character", "undo", "save", "restore",
        "count"};
    /** How often each of these is called. */
    private static final int[] WEIGHTS = {
        2, 3, 3, 5, 12, 3, 10, 4, 6, 10,
        8, 6, 6, 4, 10, 8, 10, 12, 8,
        10, 1, 6, 6, 6, 8, 6, 12, 6, 5,
        8, 4, 8, 0, 8, 6, 4, 4, 5, 2, 2,
        6};

    private static long seed;
    private static ZoneCompiler real;
    private static PlainModel model;
    private static boolean crowded;
    private static final List<String> calls = new ArrayList<>();
    private static final Map<String, Integer> answered = new HashMap<>();
    private static final Map<String, Integer> thrown = new HashMap<>();

    public static void main(String[] args) throws Exception {
        int runs = args.length > 0 ? Integer.parseInt(args[0]) : 60;
        int from = args.length > 1 ? Integer.parseInt(args[1]) : 0;
        for (int run = from; run < from + runs; run++) {
            if (!sameRun(run)) {
                System.out.println("run " + run + " differs; its calls were");
                calls.subList(Math.max(0, calls.size() - 60), calls.size()).forEach(System.out::println);
                System.exit(1);
            }
        }
        boolean lacking = false;
        for (String name : FACE) {
            if (answered.getOrDefault(name, 0) == 0) {
                lacking = true;
                System.out.println(name + " never answered");
            }
        }
        if (lacking) {
            System.exit(1);
        }
        System.out.println(runs + " runs are alike; answers " + answered + ", exceptions " + thrown);
    }

    private static boolean sameRun(int run) throws Exception {
        seed = 7919L * run + 12345;
        real = new ZoneCompiler();
        model = new PlainModel();
        crowded = run % 3 == 0;
        calls.clear();
        int weight = Arrays.stream(WEIGHTS).sum();
        for (int call = 0; call < CALLS;) {
            int at = below(weight);
            int method = 0;
            while (at >= WEIGHTS[method]) {
                at -= WEIGHTS[method];
                method++;
            }
            // At first zones and rules, so that there is something to ask about.
            String name = call < 24 ? new String[] {"addZone", "addRule", "addRule", "changeBase"}[below(4)] : FACE[method];
            if (name.equals("run")) {
                String text = below(12) == 0 ? "" : text();
                for (int i = 0; i < text.length() && call < CALLS - 1; call++) {
                    int many = 1 + below(4);
                    int packed = pack(text, i, many);
                    i += many;
                    if (!same("append", packed)) {
                        return false;
                    }
                }
                if (below(10) == 0) {
                    call++;
                    if (!same("append", below(3) == 0 ? (int) next() : packedOf(below(9)))) {
                        return false;
                    }
                }
            }
            call++;
            if (!same(name, arguments(name))) {
                return false;
            }
            if (name.equals("run") && call < CALLS) {
                call++;
                if (!same("errorPosition")) {
                    return false;
                }
            }
        }
        return true;
    }

    private static boolean same(String name, Object... arguments) throws Exception {
        String call = name + Arrays.toString(arguments);
        String got = answer(real, name, arguments);
        String due = answer(model, name, arguments);
        calls.add(call + " -> " + got);
        boolean threw = due.startsWith("java.");
        (threw ? thrown : answered).merge(name, 1, Integer::sum);
        if (!got.equals(due)) {
            System.out.println(call + " answered " + got + ", due is " + due);
            return false;
        }
        return true;
    }

    private static final Map<String, Method> METHODS = new HashMap<>();

    private static String answer(Object object, String name, Object[] arguments) throws Exception {
        String key = object.getClass().getName() + "." + name;
        Method method = METHODS.get(key);
        if (method == null) {
            Class<?>[] types = new Class<?>[arguments.length];
            Arrays.fill(types, int.class);
            method = object.getClass().getDeclaredMethod(name, types);
            METHODS.put(key, method);
        }
        try {
            return "" + method.invoke(object, arguments);
        } catch (InvocationTargetException broken) {
            return broken.getCause().getClass().getName();
        }
    }

    // ---- arguments

    private static long next() {
        seed = seed * 6364136223846793005L + 1442695040888963407L;
        return seed >>> 16;
    }

    private static int below(int bound) {
        return (int) ((next() & 0x7fffffff) % bound);
    }

    private static int from(int least, int greatest) {
        return least + below(greatest - least + 1);
    }

    /** Mostly a number of a range, now and then one at its edges or out of it. */
    private static int about(int least, int greatest) {
        int way = below(40);
        if (way == 0) {
            return new int[] {least - 1, greatest + 1, Integer.MIN_VALUE, Integer.MAX_VALUE, -1, 0}[below(6)];
        }
        return way < 4 ? (below(2) == 0 ? least : greatest) : from(least, greatest);
    }

    private static int zone() {
        if (crowded && below(3) > 0 && model.count(0) > 0) {
            return below(Math.min(2, model.count(0)));
        }
        return about(0, Math.max(0, model.count(0) - 1));
    }

    private static int meeting() {
        return about(0, Math.max(0, model.count(1) - 1));
    }

    private static int rule(int zone) {
        return about(0, zone >= 0 && zone < model.count(0) ? Math.max(0, model.zone(zone, 1) - 1) : 0);
    }

    private static int occurrence(int meeting) {
        return about(0, meeting >= 0 && meeting < model.count(1) ? Math.max(0, model.meeting(meeting, 8) - 1) : 0);
    }

    private static int base() {
        return below(crowded ? 2 : 4) == 0 ? about(-720, 840) : 60 * from(-3, 3) + 30 * below(2);
    }

    private static int dayNumber() {
        return crowded && below(4) > 0 ? 365 * below(3) + 68 + below(5) : about(0, 11687);
    }

    /** An instant, often one near a transition of the zone. */
    private static int instant(int zone) {
        if (zone >= 0 && zone < model.count(0) && model.zone(zone, 3) > 0 && below(4) > 0) {
            int transition = below(model.zone(zone, 3));
            int spread = new int[] {2, 70, 900}[below(3)];
            return model.transition(zone, transition, 0) + from(-spread, spread);
        }
        return below(3) == 0 ? 1440 * dayNumber() + from(0, 1439) : about(-2000, 16832719);
    }

    private static int local(int zone) {
        if (zone >= 0 && zone < model.count(0) && model.zone(zone, 3) > 0 && below(4) > 0) {
            int transition = below(model.zone(zone, 3));
            int spread = new int[] {2, 70, 900}[below(3)];
            return model.transition(zone, transition, 0) + model.transition(zone, transition, 1 + below(2))
                    + from(-spread, spread);
        }
        return below(3) == 0 ? 1440 * dayNumber() + from(0, 1439) : about(0, 16830719);
    }

    private static int date() {
        switch (below(9)) {
            case 0: return about(1, 31);
            case 1: return about(100, 107);
            case 2: return 100 * from(1, 4) + from(0, 6);
            case 3: return about(500, 507);
            case 4: return 500 + from(0, 6);
            case 5: return 1000 + 10 * from(0, 32) + from(0, 7);
            case 6: return from(1, 31);
            case 7: return below(1500);
            default: return 1000 + 10 * from(1, 31) + from(0, 6);
        }
    }

    private static int years() {
        int first = crowded ? below(2) : about(0, 31);
        int last = crowded ? from(first, 3) : below(10) == 0 ? about(0, 31) : from(Math.min(Math.max(first, 0), 31), 31);
        return below(3) == 0 ? 31 : 100 * first + last;
    }

    private static int month() {
        return crowded && below(3) > 0 ? 3 : about(1, 12);
    }

    private static int when() {
        if (crowded && below(3) > 0) {
            return 10 * (below(2) == 0 ? 60 * from(0, 3) : 1439 - 60 * from(0, 3)) + below(3);
        }
        return 10 * (below(3) == 0 ? about(0, 1439) : 60 * from(0, 6)) + (below(50) == 0 ? 5 : below(3));
    }

    private static int saving() {
        return below(3) == 0 ? 0 : below(3) == 0 ? about(0, 120) : 60;
    }

    /** In a crowded run, dates that lie close together, so that events are void, and gaps and folds overlap. */
    private static int ruleDate() {
        if (crowded && below(4) > 0) {
            return from(9, 12);
        }
        return below(2) == 0 ? date() : from(1, 31);
    }

    private static Object[] arguments(String name) {
        int zone = zone();
        int meeting = meeting();
        int zones = model.count(0);
        boolean hasZone = zone >= 0 && zone < zones;
        switch (name) {
            case "day": return all(about(0, 31), about(1, 12), below(2) == 0 ? about(28, 31) : about(1, 28));
            case "date": return all(below(3) == 0 ? 365 * below(33) + from(0, 70) : about(0, 11687), about(0, 5));
            case "addZone": return all(base());
            case "changeBase": return all(zone, dayNumber(), base());
            case "addRule": return all(zone, years(), month(), ruleDate(), when(), saving());
            case "dropRule": return all(zone, rule(zone));
            case "zone": return all(zone, about(0, 8));
            case "rule": return all(zone, rule(zone), about(0, 6));
            case "eventDay": return all(zone, rule(zone), about(0, 31));
            case "transition": return all(zone, about(0, hasZone ? Math.max(0, model.zone(zone, 3) - 1) : 0), about(0, 4));
            case "voidEvent":
                for (int i = 0; i < zones && below(8) > 0; i++) {
                    if (model.zone(i, 4) > 0) {
                        return all(i, about(0, model.zone(i, 4) - 1), about(0, 2));
                    }
                }
                return all(zone, about(0, hasZone ? Math.max(0, model.zone(zone, 4) - 1) : 0), about(0, 2));
            case "offset":
            case "offsetAgain":
            case "toLocal": return all(zone, instant(zone));
            case "instants":
            case "instantsAgain":
            case "cause": return all(zone, local(zone));
            case "toInstant": return all(zone, local(zone), about(0, 3));
            case "convert": return all(zone, local(zone), zone(), about(0, 3));
            case "dayLength": return all(zone, Math.floorDiv(local(zone), 1440));
            case "account": return all(zone, about(0, 31), about(0, 3));
            case "addMeeting": return addMeeting(zone);
            case "recur": return recur(meeting);
            case "cancel": return all(meeting, occurrence(meeting));
            case "shift": return all(meeting, occurrence(meeting), below(2) == 0 ? about(-1440, 1440) : from(-90, 90));
            case "meeting": return all(meeting, about(0, 9));
            case "occurrence": return all(meeting, occurrence(meeting), about(0, 5));
            case "next": return all(meeting, beginning(meeting));
            case "clash": return all(meeting, below(4) == 0 ? meeting : meeting());
            case "agenda": return all(beginning(meeting), about(0, below(2) == 0 ? 3 : Math.max(0, model.count(3) - 1)));
            case "drift": return all(meeting, zone);
            case "free": return free(meeting);
            case "append": return all(packedOf(below(5)));
            case "write": return all(zone, rule(zone));
            case "character": return all(about(0, 27));
            case "count": return all(about(0, 5));
            default: return all();
        }
    }

    private static Object[] all(Object... arguments) {
        return arguments;
    }

    private static Object[] addMeeting(int zone) {
        int day = below(3) == 0 ? about(11400, 11687) : below(3) == 0 ? about(0, 31) : dayNumber();
        if (below(2) == 0) {
            day = Math.floorDiv(local(zone), 1440) - below(5);
        }
        int many = below(3) == 0 ? 40 : about(1, 40);
        int duration = below(3) == 0 ? about(1, 1440) : from(30, 300);
        return all(zone, day, below(2) == 0 ? about(0, 1439) : from(0, 240), duration, about(0, 3), many);
    }

    private static Object[] recur(int meeting) {
        int kind = about(0, 3);
        int step = kind == 0 ? about(1, 60) : kind == 1 ? about(1, 8) : about(1, 24);
        if (below(3) == 0) {
            step = from(1, 3);
        }
        return all(meeting, kind, step, kind == 1 ? about(1, 127) : below(30) == 0 ? 1 : 0);
    }

    private static int beginning(int meeting) {
        if (meeting >= 0 && meeting < model.count(1) && model.meeting(meeting, 8) > 0 && below(4) > 0) {
            int local = model.occurrence(meeting, below(model.meeting(meeting, 8)), 1);
            return local - 60 * from(-3, 3) + from(-1, 1) * below(100);
        }
        return below(6) == 0 ? about(-2000, 16832719) : instant(model.count(0) > 0 ? below(model.count(0)) : -1);
    }

    private static Object[] free(int meeting) {
        int from = beginning(meeting);
        int until = below(3) == 0 ? about(-2000, 16832719) : from + below(6000);
        return all(from, until, about(1, 1440));
    }

    // ---- texts

    private static String number(int least, int greatest) {
        return "" + (below(40) == 0 ? below(3) == 0 ? below(120000) : below(3000) : from(least, greatest));
    }

    private static String textBase() {
        return below(8) == 0 ? "-" + below(3) : number(-720, 840);
    }

    private static String textDate() {
        switch (below(4)) {
            case 0: return number(1, 31);
            case 1: return from(1, 4) + "x" + from(0, 6);
            case 2: return "l" + from(0, 6);
            default: return from(0, 6) + ">" + number(0, 33);
        }
    }

    private static String command() {
        int zones = Math.max(1, model.count(0));
        switch (below(6)) {
            case 0: return "zone:" + textBase() + ";";
            case 1: return "base:" + number(0, zones - 1) + "," + number(0, 11687) + "," + textBase() + ";";
            case 2: return "drop:" + number(0, zones - 1) + "," + number(0, 3) + ";";
            case 3: return "cancel:" + number(0, Math.max(1, model.count(1)) - 1) + "," + number(0, 9) + ";";
            default:
                return "rule:" + number(0, zones - 1) + "," + number(2000, 2010) + "," + number(2010, 2031) + ","
                    + number(1, 12) + "," + textDate() + "," + number(0, 1439) + "," + "wbi".charAt(below(3)) + ","
                    + number(0, 120) + ";";
        }
    }

    private static String text() {
        StringBuilder text = new StringBuilder();
        int many = 1 + below(4);
        for (int i = 0; i < many; i++) {
            String command = command();
            if (text.length() + command.length() <= 60 || below(20) == 0) {
                text.append(command);
            }
        }
        while (below(3) == 0 && text.length() > 0) {
            int at = below(text.length());
            String odd = "0123456789,;:-xlwbi>azecpnABZ!~";
            switch (below(4)) {
                case 0: text.setCharAt(at, odd.charAt(below(odd.length()))); break;
                case 1: text.insert(at, odd.charAt(below(odd.length()))); break;
                case 2: text.deleteCharAt(at); break;
                default: text.setLength(at); break;
            }
        }
        return text.toString();
    }

    private static int pack(String text, int at, int many) {
        int packed = 0;
        for (int i = at; i < Math.min(at + many, text.length()); i++) {
            packed = packed << 8 | text.charAt(i);
        }
        return packed;
    }

    private static int packedOf(int way) {
        switch (way) {
            case 0: return 0;
            case 1: return 32;
            case 2: return 'z' << 24 | 'o';
            case 3: return 127 << 8;
            case 4: return -128 << 24;
            default: return ';' << 8;
        }
    }
}
