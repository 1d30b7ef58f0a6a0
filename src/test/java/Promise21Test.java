/** Promises 21 and 22, defects and defect: "Returns how many defects there are.", "Tells of a defect." */
public final class Promise21Test {
    private static final Check check = new Check("Promise21Test");

    private static void none() {
        Grid grid = new Grid();
        check.due("defects", grid.defects(), 0);
        for (int defect : new int[] {Integer.MIN_VALUE, -1, 0, 1, Integer.MAX_VALUE}) {
            for (int what = 0; what <= 2; what++) {
                int which = what;
                check.outside(grid, "defect " + defect + ", " + what, () -> grid.defect(defect, which));
            }
        }
    }

    private static void one() {
        Grid grid = Grids.of(new int[] {0, 4}, new int[] {12, 8});
        check.due("defects", grid.defects(), 1);
        check.due("x", grid.defect(0, 0), 0);
        check.due("y", grid.defect(0, 1), 0);
        check.due("winding", grid.defect(0, 2), 1);
        check.outside(grid, "a second one", () -> grid.defect(1, 0));
        check.outside(grid, "one before", () -> grid.defect(-1, 0));
        grid.turn(1, 1, 4);
        check.due("gone", grid.defects(), 0);
        check.outside(grid, "the first one", () -> grid.defect(0, 0));
    }

    /** Each place of the greatest grid is one, of either winding in turns. */
    private static void everyPlace() {
        Grid grid = Grids.fullOfDefects(12, 12);
        check.due("defects", grid.defects(), 121);
        check.due("all within", grid.within(0, 0, 11, 11), 1);
        check.outside(grid, "one more", () -> grid.defect(121, 0));
        for (int defect = 0; defect < 121; defect += 10) {
            check.due("x of " + defect, grid.defect(defect, 0), defect % 11);
            check.due("y of " + defect, grid.defect(defect, 1), defect / 11);
            check.due("winding of " + defect, grid.defect(defect, 2), defect % 2 == 0 ? 1 : -1);
        }
        check.due("x of the last one", grid.defect(120, 0), 10);
        check.due("y of the last one", grid.defect(120, 1), 10);
    }

    /** "defects are numbered from 0, row by row" */
    private static void rowByRow() {
        Grid grid = Grids.checkered();
        check.due("defects", grid.defects(), 6);
        int[][] want = {{0, 0, 1}, {1, 0, -1}, {2, 0, 1}, {0, 1, -1}, {1, 1, 1}, {2, 1, -1}};
        for (int defect = 0; defect < 6; defect++) {
            for (int what = 0; what < 3; what++) {
                check.due("defect(" + defect + ", " + what + ")", grid.defect(defect, what), want[defect][what]);
            }
        }
        grid.turn(0, 0, 8);
        check.due("without the first one", grid.defects(), 5);
        check.due("the second one is the first", grid.defect(0, 0), 1);
        check.outside(grid, "the last one has another number", () -> grid.defect(5, 0));
    }

    private static void notSquare() {
        Grid grid = Grids.of(new int[] {0, 0, 0, 0}, new int[] {0, 0, 0, 4}, new int[] {0, 0, 12, 8});
        check.due("defects", grid.defects(), 1);
        check.due("x", grid.defect(0, 0), 2);
        check.due("y", grid.defect(0, 1), 1);
        check.due("winding", grid.defect(0, 2), 1);
    }

    /** "@throws IndexOutOfBoundsException if there is no such defect" */
    private static void number() {
        Grid grid = Grids.checkered();
        for (int defect : Check.beyond(0, 5)) {
            check.outside(grid, "defect " + defect, () -> grid.defect(defect, 0));
            check.outside(grid, "winding of defect " + defect, () -> grid.defect(defect, 2));
        }
        check.outside(grid, "a place that is none", () -> grid.defect(8, 0));
    }

    /** "@throws IllegalArgumentException if what is out of its range" */
    private static void what() {
        Grid grid = Grids.checkered();
        for (int what : Check.beyond(0, 2)) {
            check.argument(grid, "what " + what, () -> grid.defect(0, what));
            check.argument(grid, "what " + what + " of the last one", () -> grid.defect(5, what));
            check.outside(grid, "no defect, what " + what, () -> grid.defect(6, what));
            check.outside(grid, "defect -1, what " + what, () -> grid.defect(-1, what));
        }
    }

    private static void everyPlaceOfLongGrids() {
        for (int[] size : Grids.longSizes()) {
            String name = " of " + size[0] + " by " + size[1];
            int places = (size[0] - 1) * (size[1] - 1);
            Grid grid = Grids.fullOfDefects(size[0], size[1]);
            check.due("defects" + name, grid.defects(), places);
            check.due("x of the first one" + name, grid.defect(0, 0), 0);
            check.due("y of the first one" + name, grid.defect(0, 1), 0);
            check.due("x of the last one" + name, grid.defect(places - 1, 0), size[0] - 2);
            check.due("y of the last one" + name, grid.defect(places - 1, 1), size[1] - 2);
            check.due("winding of the last one" + name, grid.defect(places - 1, 2),
                    (size[0] + size[1]) % 2 == 0 ? 1 : -1);
            check.outside(grid, "one more" + name, () -> grid.defect(places, 0));
        }
    }

    /** "A defect is a place with another winding than 0": places end at the last row and column of cells */
    private static void noPlacesAtTheEdges() {
        for (int side = 2; side <= 12; side++) {
            dueNone(side, side);
        }
        for (int[] size : Grids.longSizes()) {
            dueNone(size[0], size[1]);
        }
    }

    private static void dueNone(int width, int height) {
        String name = " of " + width + " by " + height;
        Grid grid = Grids.withoutDefects(width, height);
        check.due("defects" + name, grid.defects(), 0);
        check.outside(grid, "a defect" + name, () -> grid.defect(0, 0));
    }

    private static void relaxingTakesThemAway() {
        Grid grid = Grids.place(0, 4, 8, 12);
        check.due("before", grid.defects() > 0 ? 1 : 0, 1);
        grid.tick(50);
        check.due("after", grid.defects(), 0);
    }

    public static void main(String[] args) {
        none();
        one();
        everyPlace();
        rowByRow();
        notSquare();
        number();
        what();
        everyPlaceOfLongGrids();
        noPlacesAtTheEdges();
        relaxingTakesThemAway();
        check.end();
    }
}
