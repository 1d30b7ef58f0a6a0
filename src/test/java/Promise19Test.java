/** Promises 19 and 20, within and border: "Returns the winding within a region.", "of the border of a region." */
public final class Promise19Test {
    private static final Check check = new Check("Promise19Test");

    /** "@throws IndexOutOfBoundsException if there is no such cell, of either" */
    private static void corners() {
        Grid grid = Grids.of(new int[] {0, 4, 0}, new int[] {12, 8, 12}, new int[] {0, 4, 0}, new int[] {0, 4, 0},
                new int[] {12, 8, 12});
        check.due("within all", grid.within(0, 0, 2, 4), 0);
        check.due("the border of all", grid.border(0, 0, 2, 4), 0);
        check.due("within the last place", grid.within(1, 3, 2, 4), -1);
        check.due("the border of the last place", grid.border(1, 3, 2, 4), -1);
        for (int x : Check.beyond(0, 2)) {
            check.outside(grid, "within, x " + x, () -> grid.within(x, 0, 2, 4));
            check.outside(grid, "within, to x " + x, () -> grid.within(0, 0, x, 4));
            check.outside(grid, "border, x " + x, () -> grid.border(x, 0, 2, 4));
            check.outside(grid, "border, to x " + x, () -> grid.border(0, 0, x, 4));
        }
        for (int y : Check.beyond(0, 4)) {
            check.outside(grid, "within, y " + y, () -> grid.within(0, y, 2, 4));
            check.outside(grid, "within, to y " + y, () -> grid.within(0, 0, 2, y));
            check.outside(grid, "border, y " + y, () -> grid.border(0, y, 2, 4));
            check.outside(grid, "border, to y " + y, () -> grid.border(0, 0, 2, y));
        }
    }

    private static void cornersOfTheGreatest() {
        Grid grid = new Grid();
        grid.grid(12, 12);
        check.due("within all", grid.within(0, 0, 11, 11), 0);
        check.due("the border of all", grid.border(0, 0, 11, 11), 0);
        check.outside(grid, "within, to x 12", () -> grid.within(0, 0, 12, 11));
        check.outside(grid, "within, to y 12", () -> grid.within(0, 0, 11, 12));
        check.outside(grid, "border, to x 12", () -> grid.border(0, 0, 12, 11));
        check.outside(grid, "border, to y 12", () -> grid.border(0, 0, 11, 12));
    }

    /** "the second one at least one further across and down" */
    private static void oneFurther() {
        Grid grid = Grids.checkered();
        int[][] wrong = {{1, 1, 1, 2}, {1, 1, 2, 1}, {1, 1, 1, 1}, {2, 2, 1, 3}, {2, 2, 3, 1}, {2, 2, 1, 1},
            {0, 0, 0, 0}, {3, 3, 3, 3}, {3, 3, 0, 0}, {3, 0, 0, 3}, {0, 3, 3, 0}, {3, 0, 3, 3}, {0, 3, 3, 3},
            {0, 0, 0, 3}, {0, 0, 3, 0}};
        for (int[] at : wrong) {
            String name = at[0] + ", " + at[1] + " to " + at[2] + ", " + at[3];
            check.argument(grid, "within " + name, () -> grid.within(at[0], at[1], at[2], at[3]));
            check.argument(grid, "border " + name, () -> grid.border(at[0], at[1], at[2], at[3]));
        }
        check.due("within, one further", grid.within(1, 1, 2, 2), 1);
        check.due("border, one further", grid.border(1, 1, 2, 2), 1);
        check.due("within, one further at the first place", grid.within(0, 0, 1, 1), 1);
        check.due("border, one further at the last place", grid.border(2, 2, 3, 3), 0);
    }

    /** "If several exceptions apply to a call, the one that its comment lists first is thrown." */
    private static void theFirstException() {
        Grid grid = Grids.checkered();
        int[][] wrong = {{2, 2, -1, 3}, {2, 2, 3, -1}, {4, 0, 3, 3}, {0, 4, 3, 3}, {4, 4, 4, 4}, {-1, -1, -1, -1},
            {2, 2, 2, 4}, {2, 2, 4, 2}, {5, 0, 1, 1}, {0, -1, 0, 1}, {-1, 0, 1, 0}};
        for (int[] at : wrong) {
            String name = at[0] + ", " + at[1] + " to " + at[2] + ", " + at[3];
            check.outside(grid, "within " + name, () -> grid.within(at[0], at[1], at[2], at[3]));
            check.outside(grid, "border " + name, () -> grid.border(at[0], at[1], at[2], at[3]));
        }
    }

    private static void dueRegion(Grid grid, String name, int winding, int... at) {
        check.due("within " + name, grid.within(at[0], at[1], at[2], at[3]), winding);
        check.due("the border of " + name, grid.border(at[0], at[1], at[2], at[3]), winding);
    }

    /** "The winding within is the sum over all places of which all four cells are in it" */
    private static void sums() {
        Grid grid = Grids.checkered();
        dueRegion(grid, "the first place", 1, 0, 0, 1, 1);
        dueRegion(grid, "the second place", -1, 1, 0, 2, 1);
        dueRegion(grid, "the first row of places", 1, 0, 0, 3, 1);
        dueRegion(grid, "two places", 0, 0, 0, 2, 1);
        dueRegion(grid, "the second row of places", -1, 0, 1, 3, 2);
        dueRegion(grid, "the first column of places", 0, 0, 0, 1, 3);
        dueRegion(grid, "the second column of places but its first", 1, 1, 1, 2, 3);
        dueRegion(grid, "all", 0, 0, 0, 3, 3);
        dueRegion(grid, "the lower ones", -1, 0, 1, 3, 3);
        dueRegion(grid, "the lowest ones", 0, 0, 2, 3, 3);
    }

    /** "defects by winding with charges that a border tells" */
    private static void aBorderTells() {
        Grid grid = Grids.checkered();
        for (int y = 0; y < 3; y++) {
            for (int x = 0; x < 3; x++) {
                for (int toY = y + 1; toY < 4; toY++) {
                    for (int toX = x + 1; toX < 4; toX++) {
                        check.due("a border tells", grid.border(x, y, toX, toY), grid.within(x, y, toX, toY));
                    }
                }
            }
        }
    }

    private static void moreThanOnceRound() {
        Grid twice = Grids.of(new int[] {0, 3, 6, 9}, new int[] {12, 0, 0, 12}, new int[] {9, 6, 3, 0});
        dueRegion(twice, "twice round", 2, 0, 0, 3, 2);
        Grid back = Grids.of(new int[] {9, 6, 3, 0}, new int[] {12, 0, 0, 12}, new int[] {0, 3, 6, 9});
        dueRegion(back, "twice round backwards", -2, 0, 0, 3, 2);
    }

    /** The border goes by the cells of the border alone, the inner ones do not matter to it. */
    private static void theBorderAlone() {
        Grid grid = Grids.of(new int[] {0, 2, 4}, new int[] {13, 0, 6}, new int[] {11, 9, 8});
        for (int inner = 0; inner < 15; inner++) {
            grid.turn(1, 1, inner);
            dueRegion(grid, "a ring round " + inner, 1, 0, 0, 2, 2);
        }
    }

    /** The longest border, with the greatest steps but one: 43 by 7 and one back are 300. */
    private static void twentyTimesRound() {
        for (int way = 1; way >= -1; way -= 2) {
            Grid grid = new Grid();
            grid.grid(12, 12);
            for (int at = 0; at < 44; at++) {
                int side = at / 11;
                int along = at % 11;
                int x = side == 0 ? along : side == 1 ? 11 : side == 2 ? 11 - along : 0;
                int y = side == 0 ? 0 : side == 1 ? along : side == 2 ? 11 : 11 - along;
                grid.turn(x, y, Math.floorMod(way * 7 * at, 15));
            }
            dueRegion(grid, "twenty times round, " + way, way * 20, 0, 0, 11, 11);
            dueRegion(grid, "not round inside", 0, 1, 1, 10, 10);
        }
    }

    public static void main(String[] args) {
        corners();
        cornersOfTheGreatest();
        oneFurther();
        theFirstException();
        sums();
        aBorderTells();
        moreThanOnceRound();
        twentyTimesRound();
        theBorderAlone();
        check.end();
    }
}
