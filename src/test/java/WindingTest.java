/** Promises 18 to 22: winding, within, border, defects, defect. */
public final class WindingTest {
    private static final Check check = new Check("WindingTest");
    private static final int[] NO_CELLS = {Integer.MIN_VALUE, -1, 4, 12, Integer.MAX_VALUE};

    private static NemaGrid place(int first, int second, int third, int fourth) {
        NemaGrid grid = new NemaGrid();
        grid.turn(1, 1, first);
        grid.turn(2, 1, second);
        grid.turn(2, 2, third);
        grid.turn(1, 2, fourth);
        return grid;
    }

    private static void winding() {
        check.due("none", new NemaGrid().winding(0, 0), 0);
        check.due("once round", place(0, 4, 8, 12).winding(1, 1), 1);
        check.due("once round, begun elsewhere", place(12, 0, 4, 8).winding(1, 1), 1);
        check.due("once round backwards", place(0, 12, 8, 4).winding(1, 1), -1);
        check.due("to and back", place(0, 4, 8, 4).winding(1, 1), 0);
        check.due("seven on is on", place(0, 7, 14, 0).winding(1, 1), 1);
        check.due("eight on is back", place(0, 8, 0, 8).winding(1, 1), 0);
        check.due("eight on twice is back", place(0, 8, 1, 0).winding(1, 1), -1);
        check.due("across the first end", place(14, 0, 1, 0).winding(1, 1), 0);
        NemaGrid grid = place(0, 4, 8, 12);
        check.due("the last place", grid.winding(2, 2), 0);
        check.outside(grid, "right of the last place", () -> grid.winding(3, 2));
        check.outside(grid, "below the last place", () -> grid.winding(2, 3));
        for (int at : NO_CELLS) {
            check.outside(grid, "winding x " + at, () -> grid.winding(at, 0));
            check.outside(grid, "winding y " + at, () -> grid.winding(0, at));
        }
    }

    /** Two rows of places with windings of one sign and the other in turns, and one without. */
    private static NemaGrid checkered() {
        NemaGrid grid = new NemaGrid();
        int[][] directions = {{0, 4, 0, 4}, {12, 8, 12, 8}, {0, 4, 0, 4}, {0, 4, 0, 4}};
        for (int y = 0; y < 4; y++) {
            for (int x = 0; x < 4; x++) {
                grid.turn(x, y, directions[y][x]);
            }
        }
        return grid;
    }

    private static void regions() {
        NemaGrid grid = checkered();
        check.due("at 0, 0", grid.winding(0, 0), 1);
        check.due("at 1, 0", grid.winding(1, 0), -1);
        check.due("at 2, 0", grid.winding(2, 0), 1);
        check.due("at 0, 1", grid.winding(0, 1), -1);
        check.due("at 1, 1", grid.winding(1, 1), 1);
        check.due("at 2, 1", grid.winding(2, 1), -1);
        check.due("within a place", grid.within(0, 0, 1, 1), 1);
        check.due("within the top", grid.within(0, 0, 3, 1), 1);
        check.due("its border", grid.border(0, 0, 3, 1), 1);
        check.due("within two", grid.within(0, 0, 2, 1), 0);
        check.due("their border", grid.border(0, 0, 2, 1), 0);
        check.due("within all", grid.within(0, 0, 3, 3), 0);
        check.due("the border of all", grid.border(0, 0, 3, 3), 0);
        check.due("within the lower half", grid.within(0, 1, 3, 3), -1);
        check.due("its border", grid.border(0, 1, 3, 3), -1);
        for (int y = 0; y < 3; y++) {
            for (int x = 0; x < 3; x++) {
                for (int toY = y + 1; toY < 4; toY++) {
                    for (int toX = x + 1; toX < 4; toX++) {
                        check.due("a border tells", grid.border(x, y, toX, toY), grid.within(x, y, toX, toY));
                    }
                }
            }
        }
    }

    private static void twice() {
        NemaGrid grid = new NemaGrid();
        grid.grid(4, 3);
        int[][] directions = {{0, 3, 6, 9}, {12, 0, 0, 12}, {9, 6, 3, 0}};
        for (int y = 0; y < 3; y++) {
            for (int x = 0; x < 4; x++) {
                grid.turn(x, y, directions[y][x]);
            }
        }
        check.due("twice round within", grid.within(0, 0, 3, 2), 2);
        check.due("twice round the border", grid.border(0, 0, 3, 2), 2);
    }

    private static void regionsWrongly() {
        NemaGrid grid = checkered();
        check.argument(grid, "within, not across", () -> grid.within(1, 1, 1, 2));
        check.argument(grid, "within, not down", () -> grid.within(1, 1, 2, 1));
        check.argument(grid, "within, back", () -> grid.within(2, 2, 1, 3));
        check.argument(grid, "within, up", () -> grid.within(2, 2, 3, 1));
        check.argument(grid, "within, itself", () -> grid.within(3, 3, 3, 3));
        check.argument(grid, "border, not across", () -> grid.border(1, 1, 1, 2));
        check.argument(grid, "border, not down", () -> grid.border(1, 1, 2, 1));
        check.argument(grid, "border, back", () -> grid.border(2, 2, 1, 3));
        check.argument(grid, "border, up", () -> grid.border(2, 2, 3, 1));
        check.argument(grid, "border, itself", () -> grid.border(0, 0, 0, 0));
        for (int at : NO_CELLS) {
            check.outside(grid, "within x " + at, () -> grid.within(at, 0, 3, 3));
            check.outside(grid, "within y " + at, () -> grid.within(0, at, 3, 3));
            check.outside(grid, "within to x " + at, () -> grid.within(0, 0, at, 3));
            check.outside(grid, "within to y " + at, () -> grid.within(0, 0, 3, at));
            check.outside(grid, "border x " + at, () -> grid.border(at, 0, 3, 3));
            check.outside(grid, "border y " + at, () -> grid.border(0, at, 3, 3));
            check.outside(grid, "border to x " + at, () -> grid.border(0, 0, at, 3));
            check.outside(grid, "border to y " + at, () -> grid.border(0, 0, 3, at));
        }
    }

    /** Along the edges alone, once round would be a winding if cells of 0 stood beyond them. */
    private static void edges() {
        for (int side = 2; side <= 12; side++) {
            NemaGrid grid = new NemaGrid();
            grid.grid(side, side);
            for (int y = 0; y < side; y++) {
                for (int x = 0; x < side; x++) {
                    grid.turn(x, y, (x + y) % 2 == 0 ? 5 : 10);
                }
            }
            check.due("no defects at the edges of " + side, grid.defects(), 0);
            check.outside(grid, "no defect of " + side, () -> grid.defect(0, 0));
            grid.pixel(0, 0, side, side);
            check.due("all is good at the edges of " + side, grid.ofPixel(0, 2), 1);
        }
    }

    private static void defects() {
        NemaGrid grid = checkered();
        check.due("defects", grid.defects(), 6);
        int[][] want = {{0, 0, 1}, {1, 0, -1}, {2, 0, 1}, {0, 1, -1}, {1, 1, 1}, {2, 1, -1}};
        for (int defect = 0; defect < 6; defect++) {
            for (int what = 0; what < 3; what++) {
                check.due("defect(" + defect + ", " + what + ")", grid.defect(defect, what), want[defect][what]);
            }
        }
        for (int what : new int[] {Integer.MIN_VALUE, -1, 3, Integer.MAX_VALUE}) {
            check.argument(grid, "what " + what, () -> grid.defect(5, what));
            check.outside(grid, "no defect, what " + what, () -> grid.defect(6, what));
        }
        for (int defect : new int[] {Integer.MIN_VALUE, -1, 6, 9, Integer.MAX_VALUE}) {
            check.outside(grid, "defect " + defect, () -> grid.defect(defect, 0));
        }
        grid.grid(12, 12);
        check.due("none", grid.defects(), 0);
        grid.turn(10, 10, 1);
        grid.turn(11, 10, 5);
        grid.turn(11, 11, 9);
        grid.turn(10, 11, 13);
        check.due("the last place has one", grid.winding(10, 10), 1);
        check.due("its x", grid.defect(grid.defects() - 1, 0), 10);
        check.due("its y", grid.defect(grid.defects() - 1, 1), 10);
    }

    public static void main(String[] args) {
        winding();
        regions();
        twice();
        regionsWrongly();
        edges();
        defects();
        check.end();
    }
}
