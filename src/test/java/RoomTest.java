import java.lang.management.ManagementFactory;

/** The room of a run: some 600,000 objects and arrays, with 7.3 million fields and elements in all. */
public final class RoomTest {
    // an object or array takes 16 bytes and more, so what takes fewer than this is fewer than 600,000 of them
    private static final long MOST_BYTES = 600_000L * 16;
    private static final Check check = new Check("RoomTest");

    private static long bytes() {
        return ((com.sun.management.ThreadMXBean) ManagementFactory.getThreadMXBean()).getCurrentThreadAllocatedBytes();
    }

    private interface Run {
        void with(NemaGrid grid, int at);
    }

    /** All calls but the first few are of one kind, on the greatest grid with eight pixels and a picture. */
    private static void run(String name, Run run) {
        long before = bytes();
        NemaGrid grid = new NemaGrid();
        grid.grid(12, 12);
        for (int pixel = 0; pixel < 8; pixel++) {
            grid.pixel(0, pixel, 12, 1);
        }
        grid.picture();
        for (int at = 10; at < 512; at++) {
            try {
                run.with(grid, at);
            } catch (RuntimeException refused) {
                // what is thrown takes room too
            }
        }
        long taken = bytes() - before;
        check.due(name + ": of " + MOST_BYTES + " bytes it takes " + taken, taken <= MOST_BYTES ? 1 : 0, 1);
    }

    public static void main(String[] args) {
        run("none", (grid, at) -> { });
        run("tick", (grid, at) -> {
            if (at % 40 == 10) {
                grid.grid(12, 12);
            } else {
                grid.tick(50);
            }
        });
        run("grid", (grid, at) -> grid.grid(12, 12));
        run("turn", (grid, at) -> grid.turn(at % 12, at / 12 % 12, at % 15));
        run("drive", (grid, at) -> grid.drive(at % 8, at % 15, at % 101));
        run("picture", (grid, at) -> grid.picture());
        run("energyAnew", (grid, at) -> grid.energyAnew());
        run("least", (grid, at) -> grid.least(at % 11, at % 11, at % 2 == 0));
        run("defect", (grid, at) -> grid.defect(at % 121, 0));
        run("within", (grid, at) -> grid.within(0, 0, 11, 11));
        run("border", (grid, at) -> grid.border(0, 0, 11, 11));
        run("ofPixel", (grid, at) -> grid.ofPixel(at % 8, at % 5));
        run("ghosts", (grid, at) -> grid.ghosts(0));
        run("refused", (grid, at) -> grid.turn(-1, 0, 0));
        check.end();
    }
}
