/** Promise 13, told: "Tells of a cell." */
public final class Promise13Test {
    private static final Check check = new Check("Promise13Test");

    /** "@throws IndexOutOfBoundsException if there is no such cell" */
    private static void cells() {
        Grid grid = Grids.of(new int[] {1, 0, 2}, new int[] {0, 0, 0}, new int[] {3, 0, 4}, new int[] {5, 0, 6});
        check.due("the first cell", grid.told(0, 0, 0), 1);
        check.due("the last cell across", grid.told(2, 0, 0), 2);
        check.due("the last cell down", grid.told(0, 3, 0), 5);
        check.due("the last cell", grid.told(2, 3, 0), 6);
        for (int what = 0; what <= 4; what++) {
            int which = what;
            for (int x : Check.beyond(0, 2)) {
                check.outside(grid, "told " + what + " of x " + x, () -> grid.told(x, 2, which));
            }
            for (int y : Check.beyond(0, 3)) {
                check.outside(grid, "told " + what + " of y " + y, () -> grid.told(2, y, which));
            }
        }
        check.outside(grid, "neither", () -> grid.told(-1, -1, 0));
        check.outside(grid, "both too great", () -> grid.told(3, 4, 0));
    }

    /** "@throws IllegalArgumentException if what is out of its range" */
    private static void what() {
        Grid grid = Grids.busy();
        for (int what : Check.beyond(0, 4)) {
            check.argument(grid, "what " + what, () -> grid.told(1, 1, what));
            check.outside(grid, "no cell across, what " + what, () -> grid.told(5, 1, what));
            check.outside(grid, "no cell down, what " + what, () -> grid.told(1, -1, what));
        }
        check.due("the first what", grid.told(2, 3, 0), 11);
        check.due("the last what", grid.told(0, 0, 4) >= 0 ? 1 : 0, 1);
    }

    /** "0 its direction, 1 FREE to WEAK, 2 its pixel, NONE without, 3 its grey" */
    private static void eachWhat() {
        Grid grid = new Grid();
        grid.turn(1, 1, 14);
        grid.anchor(2, 1, NemaGrid.FIXED, 13, 1);
        grid.anchor(3, 1, NemaGrid.WEAK, 7, 9);
        grid.pixel(0, 0, 1, 1);
        grid.pixel(1, 1, 2, 1);
        check.due("direction", grid.told(1, 1, 0), 14);
        check.due("direction of a FIXED one", grid.told(2, 1, 0), 13);
        check.due("direction of a WEAK one", grid.told(3, 1, 0), 0);
        check.due("FREE", grid.told(1, 1, 1), NemaGrid.FREE);
        check.due("FIXED", grid.told(2, 1, 1), NemaGrid.FIXED);
        check.due("WEAK", grid.told(3, 1, 1), NemaGrid.WEAK);
        check.due("the first pixel", grid.told(0, 0, 2), 0);
        check.due("the second pixel", grid.told(1, 1, 2), 1);
        check.due("its last cell", grid.told(2, 1, 2), 1);
        check.due("without", grid.told(3, 1, 2), NemaGrid.NONE);
        check.due("grey", grid.told(1, 1, 3), 17);
        check.due("another grey", grid.told(2, 1, 3), 55);
        grid.plates(14);
        check.due("dark by the plates", grid.told(1, 1, 3), 0);
        check.due("grey by the plates", grid.told(0, 0, 3), 17);
    }

    /** "The grey of a cell is 0, 17, 55, 90, 99, 75, 35 or 4, by how far its direction is apart" */
    private static void greys() {
        int[] greys = {0, 17, 55, 90, 99, 75, 35, 4, 4, 35, 75, 99, 90, 55, 17};
        for (int plates = 0; plates < 15; plates++) {
            Grid grid = new Grid();
            grid.plates(plates);
            for (int direction = 0; direction < 15; direction++) {
                grid.turn(1, 2, direction);
                check.due("grey of " + direction + " by " + plates, grid.told(1, 2, 3),
                        greys[(direction - plates + 15) % 15]);
            }
        }
    }

    /** "4 the energy that it has by itself and with all its neighbours" */
    private static void energy() {
        Grid grid = new Grid();
        grid.costs(2, 3);
        grid.pixel(1, 1, 2, 1);
        grid.drive(0, 4, 10);
        grid.turn(1, 1, 2);
        grid.turn(2, 1, 1);
        grid.anchor(1, 1, NemaGrid.WEAK, 14, 7);
        check.due("energy", grid.told(1, 1, 4), 7 * 9 + 10 * 4 + 2 * 4 + 2 * 1 + 3 * 4 + 3 * 4);
        check.due("energy of the other", grid.told(2, 1, 4), 10 * 9 + 2 * 1 + 2 * 1 + 3 + 3);
        check.due("energy of one beside", grid.told(0, 1, 4), 8);
        check.due("energy of one above", grid.told(1, 0, 4), 12);
        check.due("energy of one below", grid.told(1, 2, 4), 12);
        check.due("energy of one aslant", grid.told(0, 0, 4), 0);
        check.due("energy of a far one", grid.told(3, 3, 4), 0);
        check.due("the whole", grid.energy(), 137 + 100 - 2);
        grid.anchor(2, 1, NemaGrid.FIXED, 1, 1);
        check.due("energy of a FIXED one", grid.told(2, 1, 4), 100);
    }

    private static void energyAtTheEdges() {
        Grid grid = new Grid();
        grid.grid(3, 3);
        grid.costs(1, 10);
        int[][] due = {{11, 12, 11}, {21, 22, 21}, {11, 12, 11}};
        for (int y = 0; y < 3; y++) {
            for (int x = 0; x < 3; x++) {
                grid.turn(x, y, 1);
                check.due("energy of " + x + ", " + y, grid.told(x, y, 4), due[y][x]);
                grid.turn(x, y, 0);
            }
        }
        Grid alike = new Grid();
        for (int i = 0; i < 16; i++) {
            alike.turn(i % 4, i / 4, 5);
        }
        for (int i = 0; i < 16; i++) {
            check.due("no neighbour beyond the edge", alike.told(i % 4, i / 4, 4), 0);
        }
    }

    public static void main(String[] args) {
        cells();
        what();
        eachWhat();
        greys();
        energy();
        energyAtTheEdges();
        check.end();
    }
}
