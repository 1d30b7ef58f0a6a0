/** Terms, relaxing: which of three directions a cell takes in a tick, and in which order. */
public final class RelaxingTest {
    private static final Check check = new Check("RelaxingTest");

    private static void dueDirections(Grid grid, String name, int y, int... directions) {
        for (int x = 0; x < directions.length; x++) {
            check.due(name + ": direction at " + x + ", " + y, grid.told(x, y, 0), directions[x]);
        }
    }

    /** The cell 0, 0 between a right, a lower and a far FIXED one. */
    private static Grid corner(int right, int below) {
        Grid grid = new Grid();
        grid.grid(2, 2);
        grid.anchor(1, 0, NemaGrid.FIXED, right, 1);
        grid.anchor(0, 1, NemaGrid.FIXED, below, 1);
        grid.anchor(1, 1, NemaGrid.FIXED, 0, 1);
        return grid;
    }

    /** "of alike ones the first one of these three": its own, the one ahead of it, the one behind it */
    private static void aheadAndBehindAreAlike() {
        Grid grid = corner(7, 8);
        check.due("both are better", grid.tick(1), 13);
        check.due("it takes the one ahead", grid.told(0, 0, 0), 14);
        Grid other = corner(12, 13);
        other.turn(0, 0, 5);
        check.due("both are better than 5", other.tick(1), 13);
        check.due("it takes 4", other.told(0, 0, 0), 4);
    }

    /** Both others are better than its own, but not alike: "that by which the energy is the least" */
    private static void bothAreBetter() {
        Grid behind = corner(7, 8);
        behind.costs(3, 1);
        // 3 * 49 + 49 with 0, 3 * 49 + 36 with 14, 3 * 36 + 49 with 1
        check.due("the one behind is the least", behind.tick(1), 196 - 157);
        check.due("it takes the one behind", behind.told(0, 0, 0), 1);
        Grid ahead = corner(7, 8);
        ahead.costs(1, 3);
        check.due("the one ahead is the least", ahead.tick(1), 196 - 157);
        check.due("it takes the one ahead of both", ahead.told(0, 0, 0), 14);
    }

    private static void itsOwnIsAlike() {
        Grid behind = corner(1, 0);
        check.due("its own and the one behind", behind.tick(1), 0);
        check.due("it stays", behind.told(0, 0, 0), 0);
        Grid ahead = corner(14, 0);
        check.due("its own and the one ahead", ahead.tick(1), 0);
        check.due("it stays again", ahead.told(0, 0, 0), 0);
        Grid all = new Grid();
        all.costs(0, 0);
        all.turn(0, 0, 9);
        check.due("all three", all.tick(50), 0);
        check.due("nothing turns", all.told(0, 0, 0), 9);
    }

    private static void oneIsTheLeast() {
        Grid behind = corner(3, 3);
        check.due("the one behind", behind.tick(1), 2 * (9 - 4));
        check.due("it is 1", behind.told(0, 0, 0), 1);
        Grid ahead = corner(12, 12);
        check.due("the one ahead", ahead.tick(1), 2 * (9 - 4));
        check.due("it is 14", ahead.told(0, 0, 0), 14);
        Grid own = corner(0, 0);
        check.due("its own", own.tick(1), 0);
        check.due("it is 0", own.told(0, 0, 0), 0);
        Grid over = corner(1, 14);
        check.due("its own between two", over.tick(1), 0);
        check.due("it is 0 still", over.told(0, 0, 0), 0);
    }

    /** A step leads no further than the next one, however far the least is. */
    private static void oneStepATick() {
        for (int to = 1; to <= 7; to++) {
            Grid grid = new Grid();
            grid.costs(0, 0);
            grid.anchor(0, 0, NemaGrid.WEAK, to, 1);
            grid.tick(1);
            check.due("one step to " + to, grid.told(0, 0, 0), 1);
            grid.tick(to - 1 > 0 ? to - 1 : 1);
            check.due("there", grid.told(0, 0, 0), to);
        }
        for (int to = 8; to <= 14; to++) {
            Grid grid = new Grid();
            grid.costs(0, 0);
            grid.anchor(0, 0, NemaGrid.WEAK, to, 1);
            grid.tick(1);
            check.due("one step back to " + to, grid.told(0, 0, 0), 14);
            grid.tick(14 - to > 0 ? 14 - to : 1);
            check.due("there", grid.told(0, 0, 0), to);
        }
    }

    /** "behind 14 comes 0" */
    private static void overTheEnd() {
        Grid grid = new Grid();
        grid.costs(0, 0);
        grid.turn(0, 0, 14);
        grid.anchor(0, 0, NemaGrid.WEAK, 1, 3);
        check.due("from 14", grid.tick(1), 3 * (4 - 1));
        check.due("it is 0", grid.told(0, 0, 0), 0);
        check.due("from 0", grid.tick(1), 3);
        check.due("it is 1", grid.told(0, 0, 0), 1);
        grid.anchor(0, 0, NemaGrid.WEAK, 13, 3);
        check.due("back over the end", grid.tick(2), 3 * (9 - 1));
        check.due("it is 14 again", grid.told(0, 0, 0), 14);
    }

    /** "row by row from the top, each from the left" */
    private static void fromTheLeft() {
        Grid grid = new Grid();
        grid.costs(1, 0);
        grid.grid(3, 2);
        grid.anchor(2, 0, NemaGrid.FIXED, 4, 1);
        grid.tick(1);
        dueDirections(grid, "first", 0, 0, 1, 4);
        grid.tick(1);
        dueDirections(grid, "second", 0, 1, 2, 4);
        grid.tick(1);
        dueDirections(grid, "third", 0, 2, 3, 4);
        grid.tick(2);
        dueDirections(grid, "together", 0, 3, 3, 4);
        grid.grid(3, 2);
        grid.anchor(0, 1, NemaGrid.FIXED, 4, 1);
        grid.tick(1);
        dueDirections(grid, "from the left at once", 1, 4, 1, 1);
        grid.tick(1);
        dueDirections(grid, "and on", 1, 4, 2, 2);
    }

    private static void fromTheTop() {
        Grid grid = new Grid();
        grid.costs(0, 2);
        grid.grid(2, 3);
        grid.anchor(0, 2, NemaGrid.FIXED, 11, 1);
        check.due("first", grid.tick(1), 2 * (16 - 10));
        check.due("it stays", grid.told(0, 0, 0), 0);
        check.due("it turns over the end", grid.told(0, 1, 0), 14);
        check.due("second", grid.tick(1), 2 * (10 - 5));
        check.due("it follows", grid.told(0, 0, 0), 14);
        check.due("it goes on", grid.told(0, 1, 0), 13);
        grid.grid(2, 3);
        grid.anchor(0, 0, NemaGrid.FIXED, 7, 1);
        grid.tick(2);
        check.due("from the top at once", grid.told(0, 1, 0) * 100 + grid.told(0, 2, 0), 202);
    }

    private static void theFirstAndTheLastCell() {
        dueCorners(12, 12);
        dueCorners(2, 2);
        for (int[] size : Grids.longSizes()) {
            dueCorners(size[0], size[1]);
        }
    }

    private static void dueCorners(int width, int height) {
        String name = " of " + width + " by " + height;
        int x = width - 1;
        int y = height - 1;
        Grid grid = new Grid();
        grid.grid(width, height);
        grid.costs(0, 0);
        grid.anchor(0, 0, NemaGrid.WEAK, 1, 1);
        grid.anchor(x, 0, NemaGrid.WEAK, 2, 1);
        grid.anchor(0, y, NemaGrid.WEAK, 3, 1);
        grid.anchor(x, y, NemaGrid.WEAK, 14, 1);
        check.due("heat of all corners" + name, grid.tick(3), 1 + 4 + 9 + 1);
        check.due("the first one" + name, grid.told(0, 0, 0), 1);
        check.due("the last one of the first row" + name, grid.told(x, 0, 0), 2);
        check.due("the first one of the last row" + name, grid.told(0, y, 0), 3);
        check.due("the last one" + name, grid.told(x, y, 0), 14);
    }

    /** "one that is not FIXED" */
    private static void fixedStays() {
        Grid grid = new Grid();
        grid.costs(0, 0);
        grid.anchor(0, 0, NemaGrid.WEAK, 3, 1);
        grid.anchor(1, 0, NemaGrid.WEAK, 13, 2);
        grid.anchor(2, 0, NemaGrid.FIXED, 5, 1);
        grid.pixel(2, 0, 1, 2);
        grid.drive(0, 8, 4);
        grid.turn(2, 1, 5);
        check.due("WEAK ones and the field", grid.tick(2), (9 - 1) + 2 * 4 + 4 * (9 - 1));
        dueDirections(grid, "after two", 0, 2, 13, 5, 0);
        dueDirections(grid, "after two", 1, 0, 0, 7, 0);
        check.due("the strongest", grid.tick(2), 1 + 4);
        dueDirections(grid, "after four", 0, 3, 13, 5, 0);
        dueDirections(grid, "after four", 1, 0, 0, 8, 0);
        check.due("the FIXED one's field is left", grid.energy(), 36);
    }

    private static void anchorAgainstField() {
        Grid grid = new Grid();
        grid.costs(0, 0);
        grid.pixel(0, 0, 1, 1);
        grid.drive(0, 4, 3);
        grid.anchor(0, 0, NemaGrid.WEAK, 12, 3);
        // 3 * 16 + 3 * 9 with 0, 3 * 9 + 3 * 16 with 1, 3 * 25 + 3 * 4 with 14
        check.due("they hold each other", grid.tick(50), 0);
        check.due("it stays", grid.told(0, 0, 0), 0);
        grid.drive(0, 4, 4);
        check.due("the stronger one", grid.tick(1), 4 * 16 + 27 - (4 * 9 + 48));
        check.due("it turns", grid.told(0, 0, 0), 1);
    }

    /** "relaxing by steps that lower the energy": "what it falls by relaxing is heat" */
    private static void energyFalls() {
        Grid grid = Grids.busy();
        int energy = grid.energy();
        grid.tick(1);
        for (int i = 0; i < 30; i++) {
            int work = grid.spent(false);
            int before = grid.energy();
            int heat = grid.tick(1);
            check.due("heat is not below 0", heat >= 0 ? 1 : 0, 1);
            check.due("energy", grid.energy(), before - heat + grid.spent(false) - work);
            check.due("energy anew", grid.energyAnew(), grid.energy());
        }
        check.due("it began higher", energy > 0 ? 1 : 0, 1);
    }

    public static void main(String[] args) {
        aheadAndBehindAreAlike();
        bothAreBetter();
        itsOwnIsAlike();
        oneIsTheLeast();
        oneStepATick();
        overTheEnd();
        fromTheLeft();
        fromTheTop();
        theFirstAndTheLastCell();
        fixedStays();
        anchorAgainstField();
        energyFalls();
        check.end();
    }
}
