/** Promise 6, pixel: "Makes a pixel." */
public final class Promise06Test {
    private static final Check check = new Check("Promise06Test");

    private static void duePixel(Grid grid, String name, int pixel, int x, int y, int width, int height) {
        for (int j = 0; j < grid.height(); j++) {
            for (int i = 0; i < grid.width(); i++) {
                boolean isIn = i >= x && i < x + width && j >= y && j < y + height;
                check.due(name + ": pixel of " + i + ", " + j, grid.told(i, j, 2), isIn ? pixel : NemaGrid.NONE);
            }
        }
    }

    /** "rectangles of cells" */
    private static void rectangles() {
        int[][] rectangles = {{0, 0, 1, 1}, {4, 3, 1, 1}, {0, 0, 5, 4}, {1, 2, 3, 1}, {4, 0, 1, 4}, {0, 3, 5, 1},
            {3, 1, 2, 3}};
        for (int[] at : rectangles) {
            Grid grid = new Grid();
            grid.grid(5, 4);
            check.due("the first pixel", grid.pixel(at[0], at[1], at[2], at[3]), 0);
            duePixel(grid, at[2] + " by " + at[3], 0, at[0], at[1], at[2], at[3]);
        }
    }

    /** "@param x of its first cell @param y of its first cell @throws IndexOutOfBoundsException if there is no such cell" */
    private static void firstCell() {
        Grid grid = new Grid();
        grid.grid(3, 5);
        for (int x : Check.beyond(0, 2)) {
            check.outside(grid, "x " + x, () -> grid.pixel(x, 0, 1, 1));
        }
        for (int y : Check.beyond(0, 4)) {
            check.outside(grid, "y " + y, () -> grid.pixel(0, y, 1, 1));
            check.outside(grid, "both " + y, () -> grid.pixel(y, y, 1, 1));
        }
        check.outside(grid, "a part of it is there across", () -> grid.pixel(-1, 0, 2, 1));
        check.outside(grid, "a part of it is there down", () -> grid.pixel(0, -1, 1, 2));
        check.due("the first cell", grid.pixel(0, 0, 1, 1), 0);
        check.due("the last cell", grid.pixel(2, 4, 1, 1), 1);
        check.due("the last cell across", grid.pixel(2, 0, 1, 1), 2);
        check.due("the last cell down", grid.pixel(0, 4, 1, 1), 3);
    }

    /** "@param width 1 to 12" */
    private static void width() {
        Grid one = new Grid();
        one.grid(12, 2);
        for (int width : Check.beyond(1, 12)) {
            check.argument(one, "width " + width, () -> one.pixel(0, 0, width, 1));
            check.argument(one, "width " + width + " at the last cell", () -> one.pixel(11, 1, width, 1));
        }
        check.argument(one, "width -1", () -> one.pixel(5, 0, -1, 1));
        check.due("the first width", one.pixel(0, 1, 1, 1), 0);
        check.due("the last width", one.pixel(0, 0, 12, 1), 1);
        check.due("its last cell", one.told(11, 0, 2), 1);
        check.due("the cell below the last one", one.told(11, 1, 2), NemaGrid.NONE);
    }

    /** "@param height 1 to 12" */
    private static void height() {
        Grid one = new Grid();
        one.grid(2, 12);
        for (int height : Check.beyond(1, 12)) {
            check.argument(one, "height " + height, () -> one.pixel(0, 0, 1, height));
            check.argument(one, "height " + height + " at the last cell", () -> one.pixel(1, 11, 1, height));
            check.argument(one, "both " + height, () -> one.pixel(0, 0, height, height));
        }
        check.argument(one, "height -1", () -> one.pixel(0, 5, 1, -1));
        check.due("the first height", one.pixel(1, 0, 1, 1), 0);
        check.due("the last height", one.pixel(0, 0, 1, 12), 1);
        check.due("its last cell", one.told(0, 11, 2), 1);
        check.due("the cell at the right of the last one", one.told(1, 11, 2), NemaGrid.NONE);
    }

    private static void theGreatest() {
        Grid grid = new Grid();
        grid.grid(12, 12);
        check.due("12 by 12", grid.pixel(0, 0, 12, 12), 0);
        duePixel(grid, "12 by 12", 0, 0, 0, 12, 12);
        check.state(grid, "no room is left", () -> grid.pixel(11, 11, 1, 1));
    }

    /** "or a cell of it is not there" */
    private static void aCellIsNotThere() {
        Grid grid = new Grid();
        grid.grid(5, 4);
        check.argument(grid, "one too wide", () -> grid.pixel(0, 0, 6, 1));
        check.argument(grid, "one too high", () -> grid.pixel(0, 0, 1, 5));
        check.argument(grid, "one too far", () -> grid.pixel(3, 0, 3, 1));
        check.argument(grid, "one too low", () -> grid.pixel(0, 2, 1, 3));
        check.argument(grid, "behind the last one", () -> grid.pixel(4, 3, 2, 1));
        check.argument(grid, "below the last one", () -> grid.pixel(4, 3, 1, 2));
        check.argument(grid, "12 wide", () -> grid.pixel(0, 0, 12, 1));
        check.argument(grid, "12 high", () -> grid.pixel(0, 0, 1, 12));
        check.argument(grid, "as many cells, but too high", () -> grid.pixel(0, 0, 4, 5));
        check.due("just wide enough", grid.pixel(3, 0, 2, 1), 0);
        check.due("just high enough", grid.pixel(0, 2, 1, 2), 1);
        check.due("just both", grid.pixel(3, 2, 2, 2), 2);
    }

    /** "@throws IllegalStateException if a cell is in another pixel" */
    private static void inAnother() {
        int[][] wrong = {{1, 1, 2, 2}, {0, 0, 2, 2}, {2, 2, 1, 1}, {2, 0, 2, 2}, {0, 2, 2, 2}, {2, 2, 2, 2},
            {0, 0, 4, 4}, {1, 0, 1, 4}, {0, 2, 4, 1}, {2, 1, 1, 1}, {1, 2, 3, 2}};
        for (int[] at : wrong) {
            Grid grid = new Grid();
            grid.pixel(1, 1, 2, 2);
            String name = at[2] + " by " + at[3] + " at " + at[0] + ", " + at[1];
            check.state(grid, name, () -> grid.pixel(at[0], at[1], at[2], at[3]));
            duePixel(grid, name, 0, 1, 1, 2, 2);
        }
    }

    private static void besideAnother() {
        Grid grid = new Grid();
        grid.pixel(1, 1, 2, 2);
        check.due("above", grid.pixel(0, 0, 3, 1), 1);
        check.due("at the right", grid.pixel(3, 0, 1, 3), 2);
        check.due("below", grid.pixel(1, 3, 3, 1), 3);
        check.due("at the left", grid.pixel(0, 1, 1, 3), 4);
        check.due("all cells are in one", grid.told(0, 0, 2) + grid.told(3, 3, 2) + grid.told(0, 3, 2), 1 + 3 + 4);
        check.state(grid, "none is left", () -> grid.pixel(2, 2, 1, 1));
    }

    /** "Pixels are numbered from 0, at most 8": "or there are 8" */
    private static void eight() {
        Grid grid = new Grid();
        for (int i = 0; i < 8; i++) {
            check.due("pixel " + i, grid.pixel(i % 4, i / 4, 1, 1), i);
        }
        check.due("the last cell of it", grid.told(3, 1, 2), 7);
        check.state(grid, "a ninth one", () -> grid.pixel(0, 2, 1, 1));
        check.state(grid, "a ninth one at the last cell", () -> grid.pixel(3, 3, 1, 1));
        check.state(grid, "a ninth one upon another", () -> grid.pixel(0, 0, 1, 1));
        check.due("its cell is in none", grid.told(0, 2, 2), NemaGrid.NONE);
    }

    /** "If several exceptions apply to a call, the one that its comment lists first is thrown." */
    private static void theFirstException() {
        Grid grid = Grids.busy();
        for (int side : Check.beyond(1, 12)) {
            check.outside(grid, "no cell, width " + side, () -> grid.pixel(5, 0, side, 1));
            check.outside(grid, "no cell, height " + side, () -> grid.pixel(0, 4, 1, side));
            check.argument(grid, "upon another, width " + side, () -> grid.pixel(0, 0, side, 1));
            check.argument(grid, "upon another, height " + side, () -> grid.pixel(0, 0, 1, side));
        }
        check.outside(grid, "no cell, and too far", () -> grid.pixel(-1, 3, 7, 1));
        check.argument(grid, "upon another, too far", () -> grid.pixel(0, 0, 6, 1));
        check.argument(grid, "upon another, too low", () -> grid.pixel(3, 1, 1, 4));
    }

    private static void theFirstExceptionWithEight() {
        Grid grid = new Grid();
        for (int i = 0; i < 8; i++) {
            grid.pixel(i % 4, i / 4, 1, 1);
        }
        check.outside(grid, "a ninth one, no cell across", () -> grid.pixel(4, 0, 1, 1));
        check.outside(grid, "a ninth one, no cell down", () -> grid.pixel(0, 4, 1, 1));
        check.argument(grid, "a ninth one, width 0", () -> grid.pixel(0, 2, 0, 1));
        check.argument(grid, "a ninth one, height 13", () -> grid.pixel(0, 2, 1, 13));
        check.argument(grid, "a ninth one, too far", () -> grid.pixel(3, 2, 2, 1));
        check.argument(grid, "a ninth one, too low", () -> grid.pixel(0, 3, 1, 2));
    }

    /** "A pixel has a field, of the direction 0 and the strength 0 at first, and a program of drives" */
    private static void fieldAtFirst() {
        Grid grid = new Grid();
        grid.turn(1, 1, 7);
        int energy = grid.energy();
        grid.pixel(1, 1, 1, 1);
        check.due("direction", grid.ofPixel(0, 3), 0);
        check.due("strength", grid.ofPixel(0, 4), 0);
        check.due("energy", grid.energy(), energy);
        check.due("energy anew", grid.energyAnew(), energy);
        check.due("work", grid.spent(false), energy);
        check.due("flicker", grid.ofPixel(0, 1), 0);
        check.due("no drive is to come", grid.program(0, 1, 0, 0), 1);
    }

    private static void whateverItsCellsAre() {
        Grid grid = new Grid();
        grid.anchor(0, 0, NemaGrid.FIXED, 3, 1);
        grid.anchor(1, 0, NemaGrid.WEAK, 3, 1);
        check.due("of FIXED and WEAK ones", grid.pixel(0, 0, 3, 1), 0);
        check.due("FIXED", grid.told(0, 0, 1), NemaGrid.FIXED);
        check.due("WEAK", grid.told(1, 0, 1), NemaGrid.WEAK);
        check.due("direction", grid.told(0, 0, 0), 3);
    }

    public static void main(String[] args) {
        rectangles();
        firstCell();
        width();
        height();
        theGreatest();
        aCellIsNotThere();
        inAnother();
        besideAnother();
        eight();
        theFirstException();
        theFirstExceptionWithEight();
        fieldAtFirst();
        whateverItsCellsAre();
        check.end();
    }
}
