/** Promise 4, turn: "Turns a cell." */
public final class Promise04Test {
    private static final Check check = new Check("Promise04Test");

    /** "@param x across @param y down @throws IndexOutOfBoundsException if there is no such cell" */
    private static void cells() {
        Grid grid = new Grid();
        grid.grid(3, 5);
        check.due("the first cell", grid.turn(0, 0, 1), 2);
        check.due("the last cell", grid.turn(2, 4, 2), 8);
        check.due("the last cell across", grid.turn(2, 0, 3), 18);
        check.due("the last cell down", grid.turn(0, 4, 4), 32);
        check.due("the last cell is told", grid.told(2, 4, 0), 2);
        check.due("the last cell across is told", grid.told(2, 0, 0), 3);
        check.due("the last cell down is told", grid.told(0, 4, 0), 4);
        for (int x : Check.beyond(0, 2)) {
            check.outside(grid, "x " + x, () -> grid.turn(x, 0, 7));
            check.outside(grid, "x " + x + " in the last row", () -> grid.turn(x, 4, 7));
        }
        for (int y : Check.beyond(0, 4)) {
            check.outside(grid, "y " + y, () -> grid.turn(0, y, 7));
            check.outside(grid, "y " + y + " in the last column", () -> grid.turn(2, y, 7));
            check.outside(grid, "both " + y, () -> grid.turn(y, y, 7));
        }
    }

    private static void cellsOfTheGreatestAndTheSmallest() {
        Grid great = new Grid();
        great.grid(12, 12);
        check.due("the last cell of 12 by 12", great.turn(11, 11, 1), 2);
        check.outside(great, "x 12", () -> great.turn(12, 11, 1));
        check.outside(great, "y 12", () -> great.turn(11, 12, 1));
        Grid small = new Grid();
        small.grid(2, 2);
        check.due("the last cell of 2 by 2", small.turn(1, 1, 1), 2);
        check.outside(small, "x 2", () -> small.turn(2, 1, 1));
        check.outside(small, "y 2", () -> small.turn(1, 2, 1));
    }

    /** "@param direction 0 to 14" */
    private static void direction() {
        Grid grid = new Grid();
        int[] squares = {0, 1, 4, 9, 16, 25, 36, 49, 49, 36, 25, 16, 9, 4, 1};
        int before = 0;
        for (int direction = 0; direction < 15; direction++) {
            int energy = 4 * squares[direction];
            check.due("turn(1, 1, " + direction + ")", grid.turn(1, 1, direction), energy - before);
            check.due("its direction", grid.told(1, 1, 0), direction);
            check.due("energy", grid.energy(), energy);
            check.due("energy anew", grid.energyAnew(), energy);
            check.due("work", grid.spent(false), energy);
            before = energy;
        }
        check.due("the first value", grid.turn(1, 1, 0), -4);
        check.due("the last value", grid.turn(1, 1, 14), 4);
        check.due("no heat", grid.spent(true), 0);
        for (int wrong : Check.beyond(0, 14)) {
            check.argument(grid, "direction " + wrong, () -> grid.turn(1, 1, wrong));
            check.argument(grid, "direction " + wrong + " of the last cell", () -> grid.turn(3, 3, wrong));
        }
        check.due("it stayed", grid.turn(1, 1, 14), 0);
    }

    /** "@throws IllegalStateException if it is FIXED" */
    private static void fixed() {
        Grid grid = Grids.busy();
        check.state(grid, "a FIXED one", () -> grid.turn(2, 3, 3));
        check.state(grid, "a FIXED one, to its own direction", () -> grid.turn(2, 3, 11));
        check.state(grid, "a FIXED one, to the first direction", () -> grid.turn(2, 3, 0));
        check.state(grid, "a FIXED one, to the last direction", () -> grid.turn(2, 3, 14));
        check.due("its direction", grid.told(2, 3, 0), 11);
        grid.anchor(2, 3, NemaGrid.WEAK, 11, 1);
        grid.turn(2, 3, 3);
        check.due("a WEAK one turns", grid.told(2, 3, 0), 3);
        grid.anchor(2, 3, NemaGrid.FIXED, 11, 1);
        grid.anchor(2, 3, NemaGrid.FREE, 11, 1);
        grid.turn(2, 3, 4);
        check.due("a freed one turns", grid.told(2, 3, 0), 4);
        Grid pixel = new Grid();
        pixel.pixel(0, 0, 2, 1);
        pixel.drive(0, 3, 100);
        pixel.anchor(1, 0, NemaGrid.FIXED, 5, 1);
        pixel.turn(0, 0, 3);
        check.due("one of a pixel turns", pixel.told(0, 0, 0), 3);
        check.state(pixel, "a FIXED one of a pixel", () -> pixel.turn(1, 0, 3));
    }

    /** "If several exceptions apply to a call, the one that its comment lists first is thrown." */
    private static void theFirstException() {
        Grid grid = Grids.busy();
        for (int direction : Check.beyond(0, 14)) {
            check.argument(grid, "a FIXED one to " + direction, () -> grid.turn(2, 3, direction));
            check.outside(grid, "no cell across to " + direction, () -> grid.turn(5, 3, direction));
            check.outside(grid, "no cell down to " + direction, () -> grid.turn(2, 4, direction));
        }
    }

    private static void work() {
        Grid grid = new Grid();
        grid.costs(2, 3);
        check.due("a corner", grid.turn(0, 0, 2), 4 * 5);
        check.due("back", grid.turn(0, 0, 0), -20);
        check.due("a side", grid.turn(3, 2, 5), 25 * (2 + 3 + 3));
        check.due("the top", grid.turn(1, 0, 5), 25 * (2 + 2 + 3));
        grid.anchor(2, 2, NemaGrid.WEAK, 0, 10);
        check.due("a WEAK one", grid.turn(2, 2, 1), 10 + 2 + 3 + 3 + 2 * (16 - 25));
        grid.pixel(0, 3, 1, 1);
        grid.drive(0, 14, 100);
        check.due("with its field", grid.turn(0, 3, 14), -100 + 5);
        check.due("work is all of the energy", grid.spent(false), grid.energy());
    }

    public static void main(String[] args) {
        cells();
        cellsOfTheGreatestAndTheSmallest();
        direction();
        fixed();
        theFirstException();
        work();
        check.end();
    }
}
