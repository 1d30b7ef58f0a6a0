/** Promises 9, 12 and 16: tick, now, spent. */
public final class TicksTest {
    private static final Check check = new Check("TicksTest");

    private static void dueDirections(NemaGrid grid, String name, int y, int... directions) {
        for (int x = 0; x < directions.length; x++) {
            check.due(name + ": direction at " + x + ", " + y, grid.told(x, y, 0), directions[x]);
        }
    }

    private static void alike() {
        NemaGrid grid = new NemaGrid();
        grid.grid(2, 2);
        grid.anchor(1, 0, NemaGrid.FIXED, 7, 1);
        grid.anchor(0, 1, NemaGrid.FIXED, 8, 1);
        grid.anchor(1, 1, NemaGrid.FIXED, 0, 1);
        check.due("the ways ahead and behind are alike", grid.tick(1), 13);
        check.due("it takes the one ahead", grid.told(0, 0, 0), 14);
        grid.grid(2, 2);
        grid.anchor(1, 0, NemaGrid.FIXED, 1, 1);
        grid.anchor(0, 1, NemaGrid.FIXED, 0, 1);
        grid.anchor(1, 1, NemaGrid.FIXED, 0, 1);
        check.due("its own and behind are alike", grid.tick(1), 0);
        check.due("it stays", grid.told(0, 0, 0), 0);
        grid.anchor(1, 0, NemaGrid.FIXED, 14, 1);
        check.due("its own and ahead are alike", grid.tick(1), 0);
        check.due("it stays again", grid.told(0, 0, 0), 0);
        grid.costs(0, 0);
        grid.turn(0, 0, 9);
        check.due("without costs", grid.tick(50), 0);
        check.due("nothing turns", grid.told(0, 0, 0), 9);
    }

    private static void fromTheLeft() {
        NemaGrid grid = new NemaGrid();
        grid.costs(1, 0);
        grid.grid(3, 2);
        grid.anchor(2, 0, NemaGrid.FIXED, 4, 1);
        check.due("first", grid.tick(1), 16 - 10);
        dueDirections(grid, "first", 0, 0, 1, 4);
        check.due("second", grid.tick(1), 10 - 5);
        dueDirections(grid, "second", 0, 1, 2, 4);
        check.due("third", grid.tick(1), 5 - 2);
        dueDirections(grid, "third", 0, 2, 3, 4);
        check.due("together", grid.tick(2), 1);
        dueDirections(grid, "together", 0, 3, 3, 4);
        check.due("at rest", grid.tick(50), 0);
        check.due("heat", grid.spent(true), 15);
        check.due("work", grid.spent(false), 16);
        check.due("energy", grid.energy(), 1);
        check.due("now", grid.now(), 55);
    }

    private static void fromTheTop() {
        NemaGrid grid = new NemaGrid();
        grid.costs(0, 2);
        grid.grid(2, 3);
        grid.anchor(0, 2, NemaGrid.FIXED, 11, 1);
        check.due("first", grid.tick(1), 2 * (16 - 10));
        check.due("it stays", grid.told(0, 0, 0), 0);
        check.due("it turns over the end", grid.told(0, 1, 0), 14);
        check.due("second", grid.tick(1), 2 * (10 - 5));
        check.due("it follows", grid.told(0, 0, 0), 14);
        check.due("it goes on", grid.told(0, 1, 0), 13);
    }

    private static void overTheEnd() {
        NemaGrid grid = new NemaGrid();
        grid.costs(0, 0);
        grid.turn(0, 0, 14);
        grid.anchor(0, 0, NemaGrid.WEAK, 1, 3);
        check.due("behind 14 comes 0", grid.tick(1), 3 * (4 - 1));
        check.due("it is 0", grid.told(0, 0, 0), 0);
        check.due("the next one", grid.tick(1), 3);
        check.due("it is 1", grid.told(0, 0, 0), 1);
        grid.anchor(0, 0, NemaGrid.WEAK, 13, 3);
        check.due("ahead of 1 are 0 and 14", grid.tick(2), 3 * (9 - 1));
        check.due("it is 14 again", grid.told(0, 0, 0), 14);
    }

    private static void held() {
        NemaGrid grid = new NemaGrid();
        grid.costs(0, 0);
        grid.anchor(0, 0, NemaGrid.WEAK, 3, 1);
        grid.anchor(1, 0, NemaGrid.WEAK, 13, 2);
        grid.anchor(2, 0, NemaGrid.FIXED, 5, 1);
        grid.pixel(2, 0, 1, 2);
        grid.drive(0, 8, 4);
        grid.turn(2, 1, 5);
        check.due("WEAK ones and the field", grid.tick(2), (9 - 1) + 2 * 4 + 4 * (9 - 1));
        dueDirections(grid, "after two", 0, 2, 13, 5, 0);
        dueDirections(grid, "after two", 1, 0, 0, 7, 0);
        check.due("the strongest", grid.tick(2), 1 + 4);
        dueDirections(grid, "after four", 0, 3, 13, 5, 0);
        dueDirections(grid, "after four", 1, 0, 0, 8, 0);
        check.due("the FIXED one's field is left", grid.energy(), 36);
    }

    private static void drivesComeFirst() {
        NemaGrid grid = new NemaGrid();
        grid.costs(0, 0);
        grid.pixel(0, 0, 1, 1);
        grid.program(0, 2, 2, 10);
        grid.program(0, 4, 0, 20);
        check.due("heat of both drives", grid.tick(5), 10 * 4 - 10 * 1 + 10 * 1 + 20 * 4 - 20 * 1 + 20 * 1);
        check.due("work of both drives", grid.spent(false), 40 + 80);
        check.due("all heat", grid.spent(true), 120);
        check.due("its greys were noted after it turned", grid.ofPixel(0, 1), 55);
        check.due("a tick tells its own heat", grid.tick(1), 0);
    }

    private static void spentCanFall() {
        NemaGrid grid = new NemaGrid();
        grid.turn(1, 1, 1);
        grid.tick(50);
        check.due("all of it is heat", grid.spent(true), 4);
        grid.anchor(0, 0, NemaGrid.WEAK, 3, 10);
        grid.tick(1);
        check.due("one step", grid.energy(), 40 + 2);
        grid.anchor(0, 0, NemaGrid.FREE, 3, 10);
        grid.turn(0, 0, 0);
        check.due("work", grid.spent(false), 4 + 90 - 40 - 2);
        check.due("heat", grid.spent(true), 4 + 90 - 42);
        NemaGrid below = new NemaGrid();
        below.costs(0, 0);
        below.turn(0, 0, 1);
        below.anchor(0, 0, NemaGrid.WEAK, 2, 5);
        below.tick(1);
        below.anchor(0, 0, NemaGrid.WEAK, 6, 5);
        below.anchor(0, 0, NemaGrid.WEAK, 2, 100);
        below.anchor(0, 0, NemaGrid.FREE, 2, 100);
        check.due("work of a round", below.spent(false), 5);
        check.due("heat of a round", below.spent(true), 5);
        check.due("energy of a round", below.energy(), 0);
        NemaGrid negative = new NemaGrid();
        negative.turn(0, 0, 1);
        negative.grid(4, 4);
        check.due("work begins anew", negative.spent(false), 0);
    }

    private static void wrongly() {
        NemaGrid grid = new NemaGrid();
        for (int ticks : new int[] {Integer.MIN_VALUE, -1, 0, 51, 2001, Integer.MAX_VALUE}) {
            check.argument(grid, "tick(" + ticks + ")", () -> grid.tick(ticks));
        }
        for (int i = 0; i < 39; i++) {
            grid.tick(50);
        }
        grid.tick(49);
        check.due("now", grid.now(), 1999);
        grid.pixel(0, 0, 1, 1);
        check.due("a drive for the last tick", grid.program(0, 2000, 4, 1), 1);
        check.state(grid, "two ticks", () -> grid.tick(2));
        check.state(grid, "fifty ticks", () -> grid.tick(50));
        check.argument(grid, "51 ticks", () -> grid.tick(51));
        check.due("the last tick", grid.tick(1), 16 - (9 + 2));
        check.due("the last tick is", grid.now(), 2000);
        check.state(grid, "one more", () -> grid.tick(1));
        check.argument(grid, "none more", () -> grid.tick(0));
        check.argument(grid, "nothing is later", () -> grid.program(0, 2000, 4, 1));
        grid.grid(4, 4);
        check.due("anew", grid.now(), 0);
        grid.tick(50);
        check.due("anew and on", grid.now(), 50);
    }

    public static void main(String[] args) {
        alike();
        fromTheLeft();
        fromTheTop();
        overTheEnd();
        held();
        drivesComeFirst();
        spentCanFall();
        wrongly();
        check.end();
    }
}
