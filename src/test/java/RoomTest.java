import com.sun.management.ThreadMXBean;
import java.lang.management.ManagementFactory;
import java.util.function.IntUnaryOperator;

/** The rows are made in the constructor: calls leave nothing behind, whatever they are. */
public final class RoomTest {

    private static final int CALLS = 512;
    /** All calls of a run have room for 7.3 million fields and elements; an object may take a small part of it. */
    private static final long MOST_BYTES_OF_AN_OBJECT = 120_000;
    /** What the Java machine itself may take beside the calls. */
    private static final long MOST_BYTES_OF_CALLS = 20_000;

    private static final ThreadMXBean THREADS = (ThreadMXBean) ManagementFactory.getThreadMXBean();
    private static boolean broken;

    private RoomTest() {
    }

    public static void main(String[] args) {
        // The first object loads the classes too.
        new ZoneCompiler();
        long before = bytes();
        ZoneCompiler x = new ZoneCompiler();
        long taken = bytes() - before;
        most("an object", taken, MOST_BYTES_OF_AN_OBJECT);
        for (int zone = 0; zone < 6; zone++) {
            x.addZone(60 * zone);
            for (int i = 0; i < 4; i++) {
                x.changeBase(zone, 2000 * i, 30 * i);
            }
            for (int i = 0; i < 8; i++) {
                x.addRule(zone, 31, i + 3, 506, 602, 15 * (i % 4));
            }
        }
        for (int i = 0; i < 10; i++) {
            x.addMeeting(i % 6, 100 * i, 0, 60, 0, 40);
        }
        x.save();
        calls("agenda", call -> {
            x.shift(call % 10, call % 40, 1);
            return x.agenda(0, call % 300);
        });
        calls("free", call -> x.free(0, 16000000, 1440));
        calls("compiling", call -> {
            x.dropRule(call % 6, 0);
            x.addRule(call % 6, 31, 3, 1013, 0, call % 120);
            return x.zone(call % 6, 3);
        });
        calls("restoring", call -> {
            x.save();
            x.cancel(call % 10, 1);
            x.undo();
            return x.restore() + x.count(3);
        });
        calls("texts", call -> {
            x.append('d' << 24 | 'r' << 16 | 'o' << 8 | 'p');
            x.append(':' << 24 | '0' << 16 | ',' << 8 | '0');
            x.append(';');
            return x.run() + x.undo() + x.write(0, 0) + x.errorPosition();
        });
        calls("conversions", call -> x.convert(0, 30000 * call, 5, 0) + x.instantsAgain(1, 30000 * call)
                + x.offsetAgain(2, 30000 * call) + x.account(3, call % 32, 1) + x.dayLength(4, 20 * call));
        calls("meetings", call -> x.recur(call % 10, 1 + call % 3, 1, call % 3 == 0 ? 127 : 0)
                + x.clash(call % 10, (call + 1) % 10) + x.drift(call % 10, call % 6) + x.next(call % 10, 0));
        if (broken) {
            System.exit(1);
        }
        System.out.println("the calls keep to their room");
    }

    private static void calls(String name, IntUnaryOperator body) {
        body.applyAsInt(0);
        long before = bytes();
        int sum = 0;
        for (int call = 0; call < CALLS; call++) {
            sum += body.applyAsInt(call);
        }
        long taken = bytes() - before;
        most(name + " (sum " + sum + ")", taken, MOST_BYTES_OF_CALLS);
    }

    private static long bytes() {
        return THREADS.getThreadAllocatedBytes(Thread.currentThread().getId());
    }

    private static void most(String name, long got, long most) {
        System.out.println(name + ": " + got + " bytes");
        if (got > most) {
            broken = true;
            System.out.println(name + " takes " + got + " bytes, at most " + most + " are due");
        }
    }
}
