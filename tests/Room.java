import java.lang.management.ManagementFactory;

/**
 * What a run makes stays within the room that all its calls have: counted in bytes, of which an int takes four and an
 * object sixteen at least; rows of smaller numbers than int the class has none.
 */
public final class Room {
    private static final long MOST_ELEMENTS = 7_300_000L;
    private static final long MOST_OBJECTS = 600_000L;

    public static void main(String[] args) {
        // what the machine itself makes when something is first used is not the program's
        dearRun(100);
        cheapRun(100);
        boolean fits = within("512 dear calls", made(() -> dearRun(0)));
        fits &= within("512 cheap calls", made(() -> cheapRun(0)));
        if (!fits) {
            System.exit(1);
        }
    }

    private static boolean within(String what, long bytes) {
        System.out.println(what + " make at most " + bytes / 4 + " elements, " + bytes / 16 + " objects");
        if (bytes / 4 <= MOST_ELEMENTS && bytes / 16 <= MOST_OBJECTS) {
            return true;
        }
        System.out.println("above " + MOST_ELEMENTS + " or " + MOST_OBJECTS);
        return false;
    }

    private static long made(Runnable run) {
        var threads = (com.sun.management.ThreadMXBean) ManagementFactory.getThreadMXBean();
        long id = Thread.currentThread().getId();
        long before = threads.getThreadAllocatedBytes(id);
        run.run();
        return threads.getThreadAllocatedBytes(id) - before;
    }

    /** A ring for which all 65535 sets of STATES are met, asked for all that is dear. */
    private static void dearRun(int callsToSpare) {
        Counted x = new Counted();
        int ring = x.losingRing(16);
        int all = x.all(2);
        x.tells(1, 1);
        for (int i = 0; x.callsLeft() > callsToSpare; i++) {
            switch (i % 11) {
                case 0: x.same(ring, ring); break;
                case 1: x.maps(all, ring); break;
                case 2: x.rounds(ring, 7); break;
                case 3: x.loops(ring, 10); break;
                case 4: x.growth(ring, 9, 2); break;
                case 5: x.weights(ring, 1, 4, 100); break;
                case 6: x.pace(ring, 3); break;
                case 7: x.about(ring, 5); break;
                case 8: x.digest(); break;
                case 9: x.same(all, ring); break;
                default: x.howMany(ring, 24);
            }
        }
    }

    /** SETS, also those for which there is no room, and small questions. */
    private static void cheapRun(int callsToSpare) {
        Counted x = new Counted();
        for (int i = 0; x.callsLeft() > callsToSpare; i++) {
            switch (i % 8) {
                case 0: x.set(4, 16); break;
                case 1: x.byWords(4); break;
                case 2: x.letter(1); break;
                case 3: x.forbid(); break;
                case 4: x.window(3); break;
                case 5: x.same(0, 1); break;
                case 6: x.maps(1, 0); break;
                default: x.howMany(1, 24);
            }
        }
    }
}
