/** Promises 10, 11 and 24 to 26: plates, picture, pictured, ghosts, guesses. */
public final class LightTest {
    private static final Check check = new Check("LightTest");
    private static final int[] GREYS = {0, 17, 55, 90, 99, 75, 35, 4, 4, 35, 75, 99, 90, 55, 17};
    private static final int[] NO_CELLS = {Integer.MIN_VALUE, -1, 4, 12, Integer.MAX_VALUE};

    private static void plates() {
        NemaGrid grid = new NemaGrid();
        int before = 0;
        for (int plates : new int[] {0, 3, 14, 7, 8}) {
            check.due("plates(" + plates + ")", grid.plates(plates), before);
            before = plates;
            for (int direction = 0; direction < 15; direction++) {
                grid.turn(1, 2, direction);
                check.due("grey of " + direction + " by " + plates, grid.told(1, 2, 3),
                        GREYS[(direction - plates + 15) % 15]);
            }
        }
        for (int direction : new int[] {Integer.MIN_VALUE, -1, 15, Integer.MAX_VALUE}) {
            check.argument(grid, "plates(" + direction + ")", () -> grid.plates(direction));
        }
        check.due("they stayed", grid.plates(8), 8);
    }

    private static void pictures() {
        NemaGrid grid = new NemaGrid();
        grid.turn(0, 0, 2);
        grid.plates(1);
        check.due("the first one", grid.picture(), 0);
        grid.turn(3, 3, 8);
        grid.plates(4);
        check.due("the second one", grid.picture(), 1);
        grid.turn(0, 0, 4);
        check.due("0 keeps 0, 0", grid.pictured(0, 0, 0), 17);
        check.due("0 keeps 3, 3", grid.pictured(0, 3, 3), 17);
        check.due("1 keeps 0, 0", grid.pictured(1, 0, 0), 55);
        check.due("1 keeps 3, 3", grid.pictured(1, 3, 3), 99);
        check.due("1 keeps 1, 1", grid.pictured(1, 1, 1), 99);
        check.due("0 ghosts by both", grid.ghosts(0), 2);
        check.due("1 ghosts by one", grid.ghosts(1), 1);
        grid.turn(0, 0, 0);
        check.due("as far on the other side", grid.ghosts(0), 1);
        grid.turn(0, 0, 6);
        check.due("as far on the other side by 1", grid.ghosts(1), 0);
        grid.plates(9);
        check.due("the plates now do not matter", grid.ghosts(1), 0);
        check.due("nor for what it keeps", grid.pictured(1, 0, 0), 55);
        for (int picture = 2; picture < 10; picture++) {
            check.due("picture " + picture, grid.picture(), picture);
        }
        check.state(grid, "an eleventh one", () -> grid.picture());
        check.due("the last one", grid.pictured(9, 0, 0), 90);
        check.due("the first one still", grid.pictured(0, 0, 0), 17);
        grid.grid(12, 12);
        grid.turn(11, 11, 9);
        check.due("anew", grid.picture(), 0);
        check.due("its last cell", grid.pictured(0, 11, 11), 0);
        check.due("its last row", grid.pictured(0, 10, 11), 35);
        grid.turn(0, 0, 1);
        grid.turn(11, 11, 8);
        check.due("the ghosts of corners", grid.ghosts(0), 2);
    }

    private static void guesses() {
        NemaGrid grid = new NemaGrid();
        grid.plates(3);
        grid.anchor(0, 0, NemaGrid.FIXED, 3, 1);
        grid.anchor(1, 0, NemaGrid.FIXED, 4, 1);
        grid.turn(2, 0, 10);
        grid.turn(3, 0, 11);
        grid.picture();
        grid.plates(0);
        check.due("of the plates", grid.guesses(0, 0, 0), 1);
        check.due("one on, FIXED", grid.guesses(0, 1, 0), 2);
        check.due("seven on", grid.guesses(0, 2, 0), 2);
        check.due("seven back", grid.guesses(0, 3, 0), 2);
        check.due("three back", grid.guesses(0, 0, 1), 2);
        grid.anchor(0, 0, NemaGrid.FREE, 0, 1);
        grid.turn(0, 0, 9);
        check.due("by the picture alone", grid.guesses(0, 0, 0), 1);
    }

    private static void wrongly() {
        NemaGrid grid = new NemaGrid();
        check.outside(grid, "pictured without one", () -> grid.pictured(0, 0, 0));
        check.outside(grid, "guesses without one", () -> grid.guesses(0, 0, 0));
        check.outside(grid, "ghosts without one", () -> grid.ghosts(0));
        grid.picture();
        for (int picture : new int[] {Integer.MIN_VALUE, -1, 1, 10, Integer.MAX_VALUE}) {
            check.outside(grid, "pictured " + picture, () -> grid.pictured(picture, 0, 0));
            check.outside(grid, "guesses " + picture, () -> grid.guesses(picture, 0, 0));
            check.outside(grid, "ghosts " + picture, () -> grid.ghosts(picture));
        }
        for (int at : NO_CELLS) {
            check.outside(grid, "pictured x " + at, () -> grid.pictured(0, at, 0));
            check.outside(grid, "pictured y " + at, () -> grid.pictured(0, 0, at));
            check.outside(grid, "guesses x " + at, () -> grid.guesses(0, at, 0));
            check.outside(grid, "guesses y " + at, () -> grid.guesses(0, 0, at));
        }
    }

    public static void main(String[] args) {
        plates();
        pictures();
        guesses();
        wrongly();
        check.end();
    }
}
