/** Promises 4, 5, 13 to 15 and 17: turn, anchor, told, energy, energyAnew, least. */
public final class CellsTest {
    private static final Check check = new Check("CellsTest");
    private static final int[] NO_DIRECTIONS = {Integer.MIN_VALUE, -1, 15, Integer.MAX_VALUE};
    private static final int[] NO_CELLS = {Integer.MIN_VALUE, -1, 4, 12, Integer.MAX_VALUE};

    private static void turn() {
        NemaGrid grid = new NemaGrid();
        check.due("a corner", grid.turn(0, 0, 2), 8);
        check.due("back", grid.turn(0, 0, 0), -8);
        int[] squares = {0, 1, 4, 9, 16, 25, 36, 49, 49, 36, 25, 16, 9, 4, 1};
        for (int direction = 0; direction < 15; direction++) {
            int before = grid.energy();
            check.due("turn(1, 1, " + direction + ")", grid.turn(1, 1, direction), 4 * squares[direction] - before);
            check.due("told", grid.told(1, 1, 0), direction);
            check.due("energy", grid.energy(), 4 * squares[direction]);
            check.due("anew", grid.energyAnew(), 4 * squares[direction]);
            check.due("work", grid.spent(false), 4 * squares[direction]);
        }
        check.due("a side", grid.turn(3, 2, 5), 75);
        check.due("no heat", grid.spent(true), 0);
        grid.anchor(2, 2, NemaGrid.WEAK, 0, 10);
        check.due("a WEAK one", grid.turn(2, 2, 1), 10 + 1 + 1 + 1 + 16 - 25);
        grid.anchor(2, 2, NemaGrid.FIXED, 1, 10);
        check.state(grid, "a FIXED one", () -> grid.turn(2, 2, 3));
        check.state(grid, "a FIXED one, to its own", () -> grid.turn(2, 2, 1));
        for (int direction : NO_DIRECTIONS) {
            check.argument(grid, "turn to " + direction, () -> grid.turn(0, 0, direction));
            check.argument(grid, "a FIXED one to " + direction, () -> grid.turn(2, 2, direction));
            check.outside(grid, "no cell to " + direction, () -> grid.turn(4, 0, direction));
        }
        for (int at : NO_CELLS) {
            check.outside(grid, "turn x " + at, () -> grid.turn(at, 0, 0));
            check.outside(grid, "turn y " + at, () -> grid.turn(0, at, 0));
        }
    }

    private static void anchor() {
        NemaGrid grid = new NemaGrid();
        check.due("FIXED turns it", grid.anchor(0, 0, NemaGrid.FIXED, 5, 1), 50);
        check.due("to 5", grid.told(0, 0, 0), 5);
        check.due("FIXED", grid.told(0, 0, 1), NemaGrid.FIXED);
        check.due("FIXED anew", grid.anchor(0, 0, NemaGrid.FIXED, 14, 100), 2 - 50);
        check.due("to 14", grid.told(0, 0, 0), 14);
        check.due("WEAK where it is", grid.anchor(0, 0, NemaGrid.WEAK, 14, 100), 0);
        check.due("it stays", grid.told(0, 0, 0), 14);
        check.due("WEAK", grid.told(0, 0, 1), NemaGrid.WEAK);
        check.due("WEAK at 2", grid.anchor(0, 0, NemaGrid.WEAK, 2, 100), 900);
        check.due("it stays still", grid.told(0, 0, 0), 14);
        check.due("weaker", grid.anchor(0, 0, NemaGrid.WEAK, 2, 1), 9 - 900);
        check.due("energy", grid.energy(), 11);
        check.due("anew", grid.energyAnew(), 11);
        check.due("free", grid.anchor(0, 0, NemaGrid.FREE, 7, 50), -9);
        check.due("FREE", grid.told(0, 0, 1), NemaGrid.FREE);
        check.due("it stays after all", grid.told(0, 0, 0), 14);
        check.due("WEAK to FIXED", grid.anchor(1, 1, NemaGrid.WEAK, 3, 10), 90);
        check.due("its strength is gone", grid.anchor(1, 1, NemaGrid.FIXED, 1, 10), 4 - 90);
        check.due("a FIXED one is freed", grid.anchor(1, 1, NemaGrid.FREE, 9, 10), 0);
        check.due("and turns", grid.turn(1, 1, 0), -4);
        check.due("work", grid.spent(false), 2);
        check.due("no heat", grid.spent(true), 0);
    }

    private static void anchorWrongly() {
        NemaGrid grid = new NemaGrid();
        grid.anchor(1, 1, NemaGrid.WEAK, 3, 10);
        grid.anchor(2, 2, NemaGrid.FIXED, 3, 10);
        for (int kind = NemaGrid.FREE; kind <= NemaGrid.WEAK; kind++) {
            int same = kind;
            for (int direction : NO_DIRECTIONS) {
                check.argument(grid, kind + " to " + direction, () -> grid.anchor(1, 1, same, direction, 1));
            }
            for (int strength : new int[] {Integer.MIN_VALUE, -1, 0, 101, Integer.MAX_VALUE}) {
                check.argument(grid, kind + " by " + strength, () -> grid.anchor(2, 2, same, 3, strength));
            }
        }
        for (int kind : new int[] {Integer.MIN_VALUE, -1, 3, Integer.MAX_VALUE}) {
            check.argument(grid, "kind " + kind, () -> grid.anchor(1, 1, kind, 0, 1));
        }
        for (int at : NO_CELLS) {
            check.outside(grid, "anchor x " + at, () -> grid.anchor(at, 0, 0, 0, 1));
            check.outside(grid, "anchor y " + at, () -> grid.anchor(0, at, 9, 99, 999));
        }
    }

    private static void told() {
        NemaGrid grid = new NemaGrid();
        grid.costs(2, 3);
        grid.pixel(1, 1, 2, 1);
        grid.drive(0, 4, 10);
        grid.turn(1, 1, 2);
        grid.turn(2, 1, 1);
        grid.anchor(1, 1, NemaGrid.WEAK, 14, 7);
        grid.plates(1);
        check.due("direction", grid.told(1, 1, 0), 2);
        check.due("kind", grid.told(1, 1, 1), NemaGrid.WEAK);
        check.due("pixel", grid.told(1, 1, 2), 0);
        check.due("pixel of the other", grid.told(2, 1, 2), 0);
        check.due("no pixel", grid.told(3, 1, 2), NemaGrid.NONE);
        check.due("grey", grid.told(1, 1, 3), 17);
        check.due("dark", grid.told(2, 1, 3), 0);
        check.due("energy", grid.told(1, 1, 4), 7 * 9 + 10 * 4 + 2 * 4 + 2 * 1 + 3 * 4 + 3 * 4);
        check.due("energy of the other", grid.told(2, 1, 4), 10 * 9 + 2 * 1 + 2 * 1 + 3 + 3);
        check.due("energy of one beside", grid.told(0, 1, 4), 8);
        check.due("energy of one above", grid.told(1, 0, 4), 12);
        check.due("energy of a far one", grid.told(3, 3, 4), 0);
        check.due("the whole", grid.energy(), 137 + 100 - 2);
        check.due("the whole anew", grid.energyAnew(), 235);
        for (int what : new int[] {Integer.MIN_VALUE, -1, 5, Integer.MAX_VALUE}) {
            check.argument(grid, "what " + what, () -> grid.told(1, 1, what));
            check.outside(grid, "no cell, what " + what, () -> grid.told(4, 4, what));
        }
        for (int at : NO_CELLS) {
            check.outside(grid, "told x " + at, () -> grid.told(at, 0, 0));
            check.outside(grid, "told y " + at, () -> grid.told(0, at, 0));
        }
    }

    private static void least() {
        NemaGrid grid = new NemaGrid();
        check.due("all alike", grid.least(1, 1, true), 0);
        grid.grid(2, 2);
        grid.anchor(0, 0, NemaGrid.FIXED, 5, 1);
        check.due("FIXED first", grid.least(0, 0, true), 25 + 9 + 4);
        check.due("FIXED above", grid.least(0, 0, false), 38);
        check.due("both free", grid.least(0, 1, true), 9);
        check.due("both free, at the right", grid.least(1, 0, false), 9);
        grid.costs(2, 1);
        check.due("dear across", grid.least(0, 0, true), 25 + 17);
        check.due("dear across, below", grid.least(0, 0, false), 50 + 17);
        grid.anchor(0, 1, NemaGrid.FIXED, 9, 1);
        check.due("both FIXED", grid.least(0, 0, false), 2 * 25 + 2 * 36 + 16);
        grid.anchor(1, 0, NemaGrid.FIXED, 1, 1);
        check.due("a FIXED second", grid.least(1, 0, false), 2 * 16 + 8 + 25);
        grid.grid(2, 2);
        grid.anchor(0, 0, NemaGrid.WEAK, 7, 100);
        check.due("a WEAK one is held", grid.least(0, 0, true), 49 + 8 + 25);
        check.due("what it has now", grid.energy(), 4900);
        check.due("the question turns nothing", grid.told(0, 0, 0), 0);
    }

    private static void leastOfAllDirections() {
        NemaGrid grid = new NemaGrid();
        for (int direction = 0; direction < 15; direction++) {
            for (int y = 0; y < 4; y++) {
                for (int x = 0; x < 4; x++) {
                    grid.turn(x, y, direction);
                    grid.anchor(x, y, NemaGrid.WEAK, direction, 100);
                }
            }
            grid.turn(1, 1, (direction + 7) % 15);
            grid.turn(2, 1, (direction + 8) % 15);
            check.due("both could be " + direction, grid.least(1, 1, true), 0);
            grid.turn(2, 1, direction);
            grid.turn(1, 2, (direction + 5) % 15);
            check.due("both could be " + direction + ", below", grid.least(1, 1, false), 0);
        }
    }

    private static void everywhere() {
        NemaGrid grid = new NemaGrid();
        grid.grid(3, 2);
        grid.costs(2, 5);
        grid.turn(2, 1, 3);
        check.due("the last cell", grid.energyAnew(), 9 * 7);
        grid.turn(0, 1, 1);
        check.due("the last row", grid.energyAnew(), 9 * 7 + 7);
        grid.turn(2, 0, 14);
        check.due("the last column", grid.energyAnew(), 7 + 2 * 9 + 5 * 16 + 2);
        check.due("as kept", grid.energy(), 107);
        grid.grid(12, 12);
        grid.turn(11, 11, 2);
        check.due("the last of all", grid.energyAnew(), 4 * 7);
        grid.turn(11, 10, 2);
        check.due("the last two", grid.energyAnew(), 4 * (2 + 2 + 5));
    }

    private static void leastWrongly() {
        NemaGrid grid = new NemaGrid();
        check.outside(grid, "none at the right", () -> grid.least(3, 0, true));
        check.outside(grid, "none below", () -> grid.least(0, 3, false));
        check.due("below at the right side", grid.least(3, 2, false), 0);
        check.due("right at the bottom", grid.least(2, 3, true), 0);
        check.outside(grid, "only the other one, right", () -> grid.least(-1, 0, true));
        check.outside(grid, "only the other one, below", () -> grid.least(0, -1, false));
        for (int at : NO_CELLS) {
            check.outside(grid, "least x " + at, () -> grid.least(at, 0, false));
            check.outside(grid, "least y " + at, () -> grid.least(0, at, true));
        }
    }

    public static void main(String[] args) {
        turn();
        anchor();
        anchorWrongly();
        told();
        least();
        leastOfAllDirections();
        everywhere();
        leastWrongly();
        check.end();
    }
}
