/** Promise 1, a new object: "A grid of 4 by 4 free cells of the direction 0, no pixels, the tick 0." */
public final class Promise01Test {
    private static final Check check = new Check("Promise01Test");

    private static void fourByFourFreeCells() {
        Grid grid = new Grid();
        for (int y = 0; y < 4; y++) {
            for (int x = 0; x < 4; x++) {
                String cell = " of " + x + ", " + y;
                check.due("direction" + cell, grid.told(x, y, 0), 0);
                check.due("kind" + cell, grid.told(x, y, 1), NemaGrid.FREE);
                check.due("pixel" + cell, grid.told(x, y, 2), NemaGrid.NONE);
                check.due("grey" + cell, grid.told(x, y, 3), 0);
                check.due("energy" + cell, grid.told(x, y, 4), 0);
            }
        }
        check.outside(grid, "left of the first cell", () -> grid.told(-1, 0, 0));
        check.outside(grid, "above the first cell", () -> grid.told(0, -1, 0));
        check.outside(grid, "right of the last cell", () -> grid.told(4, 3, 0));
        check.outside(grid, "below the last cell", () -> grid.told(3, 4, 0));
    }

    private static void freeCellsTurn() {
        Grid grid = new Grid();
        for (int i = 0; i < 16; i++) {
            int x = i % 4;
            int y = i / 4;
            grid.turn(x, y, 6);
            check.due("direction of " + x + ", " + y, grid.told(x, y, 0), 6);
        }
    }

    private static void noPixels() {
        Grid grid = new Grid();
        check.outside(grid, "ofPixel", () -> grid.ofPixel(0, 0));
        check.outside(grid, "drive", () -> grid.drive(0, 0, 0));
        check.outside(grid, "program", () -> grid.program(0, 1, 0, 0));
        check.due("the first pixel", grid.pixel(3, 3, 1, 1), 0);
    }

    private static void theTick0() {
        Grid grid = new Grid();
        check.due("now", grid.now(), 0);
        grid.tick(1);
        check.due("after one", grid.now(), 1);
    }

    /** "Both are 0 as a grid begins, and so is the energy." */
    private static void noWorkHeatAndEnergy() {
        Grid grid = new Grid();
        check.due("energy", grid.energy(), 0);
        check.due("energy anew", grid.energyAnew(), 0);
        check.due("work", grid.spent(false), 0);
        check.due("heat", grid.spent(true), 0);
    }

    /** "costs are 0 to 20, 1 and 1 at first" */
    private static void costsAreOneAndOne() {
        Grid across = new Grid();
        for (int y = 0; y < 4; y++) {
            across.turn(0, y, 3);
        }
        check.due("four pairs across", across.energy(), 4 * 9);
        Grid down = new Grid();
        for (int x = 0; x < 4; x++) {
            down.turn(x, 0, 3);
        }
        check.due("four pairs down", down.energy(), 4 * 9);
    }

    /** "The plates have a direction, 0 to 14, 0 at first." */
    private static void platesAreZero() {
        check.due("plates before", new Grid().plates(7), 0);
        Grid grid = new Grid();
        grid.turn(0, 0, 1);
        check.due("grey of 1", grid.told(0, 0, 3), 17);
        check.due("grey of 0", grid.told(1, 1, 3), 0);
    }

    private static void noProgramsPicturesAndDefects() {
        Grid grid = new Grid();
        check.outside(grid, "pictured", () -> grid.pictured(0, 0, 0));
        check.outside(grid, "ghosts", () -> grid.ghosts(0));
        check.outside(grid, "guesses", () -> grid.guesses(0, 0, 0));
        check.outside(grid, "defect", () -> grid.defect(0, 0));
        check.due("defects", grid.defects(), 0);
        check.due("the first picture", grid.picture(), 0);
        grid.pixel(0, 0, 1, 1);
        check.due("the first drive", grid.program(0, 1, 0, 0), 1);
    }

    private static void eachObjectByItself() {
        Grid one = new Grid();
        Grid other = new Grid();
        one.grid(12, 2);
        one.costs(20, 20);
        one.plates(4);
        one.turn(0, 0, 1);
        one.pixel(0, 0, 1, 1);
        one.program(0, 1, 1, 1);
        one.picture();
        one.tick(1);
        check.due("direction", other.told(3, 3, 0), 0);
        check.due("tick", other.now(), 0);
        check.due("plates", other.plates(0), 0);
        check.due("energy", other.energy(), 0);
        check.due("costs", other.turn(0, 0, 2), 8);
        check.due("pixel", other.pixel(0, 0, 1, 1), 0);
        check.due("drives", other.program(0, 2, 0, 0), 1);
        check.due("picture", other.picture(), 0);
        check.due("the one has its own", one.now(), 1);
    }

    public static void main(String[] args) {
        fourByFourFreeCells();
        freeCellsTurn();
        noPixels();
        theTick0();
        noWorkHeatAndEnergy();
        costsAreOneAndOne();
        platesAreZero();
        noProgramsPicturesAndDefects();
        eachObjectByItself();
        check.end();
    }
}
