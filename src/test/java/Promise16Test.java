/** Promise 16, spent: "Returns all work, or all heat, since the grid began." */
public final class Promise16Test {
    private static final Check check = new Check("Promise16Test");

    private static void dueSpent(Grid grid, String name, int work, int heat) {
        check.due(name + ": work", grid.spent(false), work);
        check.due(name + ": heat", grid.spent(true), heat);
        check.due(name + ": energy", grid.energy(), work - heat);
    }

    /** "Both are 0 as a grid begins" */
    private static void asAGridBegins() {
        Grid grid = new Grid();
        dueSpent(grid, "at first", 0, 0);
        grid.turn(1, 1, 1);
        grid.tick(50);
        dueSpent(grid, "later", 4, 4);
        grid.grid(4, 4);
        dueSpent(grid, "anew", 0, 0);
        grid.turn(0, 0, 1);
        grid.grid(4, 4);
        dueSpent(grid, "anew, with energy", 0, 0);
        grid.costs(2, 2);
        dueSpent(grid, "costs alone", 0, 0);
    }

    /** "What the energy grows by something that is told is work, also when it falls, then below 0" */
    private static void eachKindOfWork() {
        Grid grid = new Grid();
        grid.turn(1, 1, 3);
        dueSpent(grid, "turn", 36, 0);
        grid.costs(1, 2);
        dueSpent(grid, "costs", 54, 0);
        grid.anchor(1, 1, NemaGrid.WEAK, 4, 10);
        dueSpent(grid, "WEAK", 64, 0);
        grid.pixel(0, 0, 2, 2);
        dueSpent(grid, "pixel", 64, 0);
        grid.drive(0, 1, 1);
        dueSpent(grid, "drive", 64 + 3 + 4, 0);
        grid.anchor(1, 1, NemaGrid.FIXED, 0, 1);
        dueSpent(grid, "FIXED", 4, 0);
        grid.drive(0, 1, 0);
        dueSpent(grid, "without a field", 0, 0);
        grid.program(0, 1, 0, 100);
        grid.plates(5);
        grid.picture();
        dueSpent(grid, "program, plates and picture", 0, 0);
        grid.tick(1);
        dueSpent(grid, "a drive that came without work", 0, 0);
        grid.program(0, 2, 1, 100);
        grid.tick(1);
        check.due("a drive that came", grid.spent(false), 400);
        check.due("its heat", grid.spent(true), 400 - grid.energy());
    }

    private static void workThatFalls() {
        Grid grid = new Grid();
        check.due("it grows", grid.turn(0, 0, 5), 50);
        check.due("it falls", grid.turn(0, 0, 3), 18 - 50);
        dueSpent(grid, "turn", 18, 0);
        check.due("it falls by costs", grid.costs(0, 1), -9);
        check.due("it falls by an anchor", grid.anchor(0, 0, NemaGrid.FIXED, 1, 1), 1 - 9);
        dueSpent(grid, "all", 1, 0);
        Grid program = new Grid();
        program.costs(0, 0);
        program.pixel(0, 0, 1, 1);
        program.anchor(0, 0, NemaGrid.FIXED, 0, 1);
        program.drive(0, 2, 10);
        program.program(0, 1, 1, 10);
        check.due("a drive's fall is no heat", program.tick(1), 0);
        dueSpent(program, "it falls by a drive that comes", 10, 0);
    }

    /** "what it falls by relaxing is heat" */
    private static void heat() {
        Grid grid = new Grid();
        grid.costs(0, 0);
        grid.turn(0, 0, 1);
        grid.anchor(0, 0, NemaGrid.WEAK, 3, 5);
        dueSpent(grid, "before", 20, 0);
        check.due("the first tick", grid.tick(1), 15);
        dueSpent(grid, "after one", 20, 15);
        check.due("the second tick", grid.tick(1), 5);
        dueSpent(grid, "after two", 20, 20);
        grid.anchor(0, 0, NemaGrid.WEAK, 6, 5);
        dueSpent(grid, "work besides", 65, 20);
        grid.anchor(0, 0, NemaGrid.FREE, 6, 5);
        dueSpent(grid, "work is taken back, heat is not", 20, 20);
    }

    private static void refusedCallsSpendNothing() {
        Grid grid = Grids.busy();
        check.state(grid, "turn", () -> grid.turn(2, 3, 0));
        check.argument(grid, "tick", () -> grid.tick(51));
        check.argument(grid, "drive", () -> grid.drive(0, 9, 101));
        check.argument(grid, "anchor", () -> grid.anchor(0, 0, NemaGrid.FIXED, 7, 0));
    }

    /** All that can be spent on the greatest grid, again and again: work and heat have no end of their own. */
    private static void muchWorkAndHeat() {
        int once = 144 * 100 * 49;
        Grid grid = new Grid();
        grid.grid(12, 12);
        grid.costs(0, 0);
        grid.pixel(0, 0, 12, 12);
        for (int times = 1; times <= 39; times++) {
            check.due("work of drive " + times, grid.drive(0, 7 * times % 15, 100), once);
            check.due("heat after drive " + times, grid.tick(50), once);
            dueSpent(grid, "drive " + times, times * once, times * once);
        }
        for (int times = 40; times <= 46; times++) {
            check.due("work of drive " + times, grid.drive(0, 7 * times % 15, 100), once);
            check.due("heat after drive " + times, grid.tick(7), once);
            dueSpent(grid, "drive " + times, times * once, times * once);
        }
        int direction = grid.told(0, 0, 0);
        check.due("one more, of work", grid.anchor(0, 0, NemaGrid.WEAK, (direction + 1) % 15, 1), 1);
        dueSpent(grid, "one more of work", 46 * once + 1, 46 * once);
        check.due("without a field", grid.drive(0, direction, 0), 0);
        check.due("one more, of heat", grid.tick(1), 1);
        dueSpent(grid, "one more of both", 46 * once + 1, 46 * once + 1);
    }

    public static void main(String[] args) {
        asAGridBegins();
        eachKindOfWork();
        workThatFalls();
        heat();
        muchWorkAndHeat();
        refusedCallsSpendNothing();
        check.end();
    }
}
