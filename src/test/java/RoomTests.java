import com.sun.management.ThreadMXBean;
import java.lang.management.ManagementFactory;

/**
 * What the dearest runs of 512 calls make, in bytes. An object or array takes at least 16 bytes, a
 * field or element at least one, so the bound keeps a run under 62,500 objects and a million elements.
 */
public final class RoomTests {
    private static final int CALLS = 512;
    private static final long MOST_BYTES = 1_000_000;
    private static final ThreadMXBean THREADS = (ThreadMXBean) ManagementFactory.getThreadMXBean();

    private static int wrong = 0;

    public static void main(String[] args) {
        String dense = "bar a0 when " + "(".repeat(20) + "c0" + ")".repeat(20) + ";";
        String[] texts = {"", ";", "bar a0 when c0;", dense, dense.repeat(11), "bar a0 when c0;".repeat(34),
            "(".repeat(500), "bar a0 a1 a2 a3 a4 a5 a6 a7 when c0" + " or c1".repeat(31) + ";"};
        String[] kinds = {"read", "write", "test", "tick", "act", "row", "clear", "text"};
        for (String kind : kinds) {
            for (String text : texts) {
                // The first run loads what is needed, which is not the class's own.
                bytesOf(kind, text);
                due(kind + " with " + text, bytesOf(kind, text));
            }
        }
        System.out.println(wrong == 0 ? "the room is enough" : wrong + " runs take too much");
        if (wrong != 0) {
            System.exit(1);
        }
    }

    private static void due(String run, long bytes) {
        if (bytes > MOST_BYTES) {
            wrong++;
            System.out.println(run + " makes " + bytes + " bytes, at most " + MOST_BYTES + " are due");
        }
    }

    private static long bytesOf(String kind, String text) {
        long before = THREADS.getCurrentThreadAllocatedBytes();
        run(kind, text);
        return THREADS.getCurrentThreadAllocatedBytes() - before;
    }

    private static void run(String kind, String text) {
        InterlockTables x = new InterlockTables();
        int calls = 0;
        while (calls < text.length()) {
            x.unit(text.charAt(calls));
            calls++;
        }
        x.read();
        while (++calls < CALLS) {
            call(x, kind, text, calls);
        }
    }

    private static void call(InterlockTables x, String kind, String text, int i) {
        switch (kind) {
            case "read": x.read(); break;
            case "write": x.write(i); break;
            case "test": x.test(i); break;
            case "tick": x.tick(i); break;
            case "act": x.act(i % 32); break;
            case "row": x.row(1, i % 8); break;
            case "clear": x.clear(); break;
            default: again(x, text, i); break;
        }
    }

    /** The text comes again and again, and is read each time. */
    private static void again(InterlockTables x, String text, int i) {
        int at = i % (text.length() + 1);
        if (at < text.length()) {
            x.unit(text.charAt(at));
        } else {
            x.read();
        }
    }
}
