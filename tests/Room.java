import java.lang.management.ManagementFactory;

/** What a run makes stays far below the room that all its calls have: counted in bytes, four to an element. */
public final class Room {
    private static final long MOST_ELEMENTS = 7_300_000L;

    public static void main(String[] args) {
        // what the machine itself makes when something is first used is not the program's
        dearRun(2);
        cheapRun();
        boolean fits = within("512 dear calls", made(() -> dearRun(512)), MOST_ELEMENTS / 5);
        fits &= within("512 cheap calls", made(Room::cheapRun), MOST_ELEMENTS / 500);
        if (!fits) {
            System.exit(1);
        }
    }

    private static boolean within(String what, long bytes, long most) {
        System.out.println(what + " make " + bytes / 4 + " elements");
        if (bytes / 4 <= most) {
            return true;
        }
        System.out.println("above " + most);
        return false;
    }

    private static long made(Runnable run) {
        var threads = (com.sun.management.ThreadMXBean) ManagementFactory.getThreadMXBean();
        long id = Thread.currentThread().getId();
        long before = threads.getThreadAllocatedBytes(id);
        run.run();
        return threads.getThreadAllocatedBytes(id) - before;
    }

    private static void dearRun(int calls) {
        RowRules x = new RowRules();
        x.set(2, 16);
        for (int s = 0; s < 16; s++) {
            x.way(0, s, 0, (s + 1) % 16);
            if (s < 15) {
                x.way(0, s, 1, s + 1);
            }
        }
        x.set(2, 1);
        x.way(1, 0, 0, 0);
        x.way(1, 0, 1, 0);
        x.tells(1, 1);
        for (int i = x.count(0) + 36; i < calls; i++) {
            switch (i % 11) {
                case 0: x.same(0, 0); break;
                case 1: x.maps(1, 0); break;
                case 2: x.rounds(0, 7); break;
                case 3: x.loops(0, 10); break;
                case 4: x.growth(0, 9, 2); break;
                case 5: x.weights(0, 1, 4, 100); break;
                case 6: x.pace(0, 3); break;
                case 7: x.about(0, 5); break;
                case 8: x.digest(); break;
                case 9: x.same(1, 0); break;
                default: x.howMany(0, 24);
            }
        }
    }

    private static void cheapRun() {
        RowRules x = new RowRules();
        for (int i = 0; i < 512; i++) {
            x.set(4, 16);
            x.byWords(4);
            x.letter(1);
            x.forbid();
            x.window(3);
            x.same(0, 1);
            x.maps(1, 0);
            x.howMany(1, 24);
        }
    }
}
