/** Promise 2, grid: "Begins anew with a grid, as at first but for its size". */
public final class Promise02Test {
    private static final Check check = new Check("Promise02Test");

    /** "A grid has a width and a height of 2 to 12 cells, x and y from 0" */
    private static void eachSize() {
        for (int width = 2; width <= 12; width++) {
            for (int height = 2; height <= 12; height++) {
                dueCells(width, height);
            }
        }
    }

    private static void dueCells(int width, int height) {
        String size = " of " + width + " by " + height;
        Grid grid = new Grid();
        grid.grid(width, height);
        check.due("the first cell" + size, grid.told(0, 0, 0), 0);
        check.due("the last cell" + size, grid.told(width - 1, height - 1, 0), 0);
        check.due("the last cell across" + size, grid.told(width - 1, 0, 1), NemaGrid.FREE);
        check.due("the last cell down" + size, grid.told(0, height - 1, 2), NemaGrid.NONE);
        if (width == height || width + height == 14) {
            check.outside(grid, "x before the first one" + size, () -> grid.told(-1, 0, 0));
            check.outside(grid, "y before the first one" + size, () -> grid.told(0, -1, 0));
            check.outside(grid, "x behind the last one" + size, () -> grid.told(width, 0, 0));
            check.outside(grid, "y behind the last one" + size, () -> grid.told(0, height, 0));
        }
    }

    /** "@param width 2 to 12" */
    private static void width() {
        for (int width : Check.beyond(2, 12)) {
            Grid grid = Grids.busy();
            check.argument(grid, "width " + width, () -> grid.grid(width, 4));
            check.argument(grid, "width " + width + ", height 2", () -> grid.grid(width, 2));
            check.argument(grid, "width " + width + ", height 12", () -> grid.grid(width, 12));
        }
        Grid none = Grids.busy();
        check.argument(none, "width 0", () -> none.grid(0, 4));
    }

    /** "@param height 2 to 12" */
    private static void height() {
        for (int height : Check.beyond(2, 12)) {
            Grid grid = Grids.busy();
            check.argument(grid, "height " + height, () -> grid.grid(5, height));
            check.argument(grid, "width 2, height " + height, () -> grid.grid(2, height));
            check.argument(grid, "width 12, height " + height, () -> grid.grid(12, height));
            check.argument(grid, "both " + height, () -> grid.grid(height, height));
        }
        Grid none = Grids.busy();
        check.argument(none, "height 0", () -> none.grid(5, 0));
    }

    private static void dueBlank(Grid grid, String name) {
        check.due(name + ": tick", grid.now(), 0);
        check.due(name + ": energy", grid.energy(), 0);
        check.due(name + ": energy anew", grid.energyAnew(), 0);
        check.due(name + ": work", grid.spent(false), 0);
        check.due(name + ": heat", grid.spent(true), 0);
        check.due(name + ": defects", grid.defects(), 0);
        for (int at = 0; at < grid.width() * grid.height() && at < 80; at++) {
            int x = at % grid.width();
            int y = at / grid.width();
            check.due(name + ": direction", grid.told(x, y, 0), 0);
            check.due(name + ": kind", grid.told(x, y, 1), NemaGrid.FREE);
            check.due(name + ": pixel", grid.told(x, y, 2), NemaGrid.NONE);
            check.due(name + ": energy of a cell", grid.told(x, y, 4), 0);
        }
    }

    /** "as at first but for its size", "the tick is 0"; of the same size and of another one */
    private static void asAtFirst() {
        int[][] sizes = {{5, 4}, {4, 5}, {2, 2}, {12, 6}};
        for (int[] size : sizes) {
            Grid grid = Grids.busy();
            grid.grid(size[0], size[1]);
            dueBlank(grid, "anew with " + size[0] + " by " + size[1]);
        }
    }

    private static void smallerAndLargerAgain() {
        Grid grid = new Grid();
        grid.grid(12, 12);
        grid.anchor(11, 11, NemaGrid.FIXED, 5, 1);
        grid.anchor(11, 0, NemaGrid.WEAK, 5, 100);
        grid.turn(0, 11, 9);
        grid.pixel(5, 5, 7, 6);
        grid.grid(2, 2);
        check.due("no energy", grid.energyAnew(), 0);
        grid.grid(12, 12);
        check.due("direction", grid.told(11, 11, 0), 0);
        check.due("kind", grid.told(11, 11, 1), NemaGrid.FREE);
        check.due("no longer WEAK", grid.told(11, 0, 1), NemaGrid.FREE);
        check.due("turned back", grid.told(0, 11, 0), 0);
        check.due("no pixel", grid.told(11, 10, 2), NemaGrid.NONE);
        check.due("no energy again", grid.energyAnew(), 0);
        check.due("it turns", grid.turn(11, 0, 5), 50);
    }

    /** "costs and plates stay" */
    private static void costsAndPlatesStay() {
        Grid grid = Grids.busy();
        grid.grid(4, 4);
        check.due("cost across and down", grid.turn(0, 0, 2), 3 * 4 + 5 * 4);
        check.due("cost across alone", grid.turn(1, 0, 2), -12 + 12 + 20);
        check.due("grey by the plates", grid.told(3, 3, 3), 90);
        check.due("the plates", grid.plates(0), 3);
    }

    /** "pixels, programs and pictures are gone" */
    private static void pixelsAreGone() {
        Grid grid = Grids.busy();
        grid.drive(0, 9, 80);
        grid.tick(1);
        grid.grid(5, 4);
        check.outside(grid, "a pixel", () -> grid.ofPixel(0, 3));
        check.outside(grid, "another pixel", () -> grid.drive(1, 0, 0));
        grid.turn(4, 3, 4);
        int energy = grid.energy();
        for (int pixel = 0; pixel < 2; pixel++) {
            check.due("pixel anew", grid.pixel(pixel, 0, 1, 4), pixel);
            check.due("direction of " + pixel, grid.ofPixel(pixel, 3), 0);
            check.due("strength of " + pixel, grid.ofPixel(pixel, 4), 0);
            check.due("flicker of " + pixel, grid.ofPixel(pixel, 1), 0);
            check.due("good " + pixel, grid.ofPixel(pixel, 2), 1);
        }
        check.due("no field is left", grid.energyAnew(), energy);
        check.due("a field anew", grid.drive(0, 1, 1), 4);
    }

    private static void eightPixelsAreGone() {
        Grid grid = new Grid();
        for (int round = 0; round < 2; round++) {
            for (int i = 0; i < 8; i++) {
                check.due("pixel of round " + round, grid.pixel(i % 4, i / 4, 1, 1), i);
            }
            check.state(grid, "a ninth one of round " + round, () -> grid.pixel(0, 3, 1, 1));
            for (int i = 0; i < 8; i++) {
                check.due("flicker of " + i + " in round " + round, grid.ofPixel(i, 1), 0);
                check.due("direction of " + i + " in round " + round, grid.ofPixel(i, 3), 0);
                check.due("strength of " + i + " in round " + round, grid.ofPixel(i, 4), 0);
                grid.drive(i, 3, 50);
            }
            grid.tick(3);
            check.due("it flickers in round " + round, grid.ofPixel(7, 1) > 0 ? 1 : 0, 1);
            grid.grid(4, 4);
        }
    }

    private static void programsAreGone() {
        Grid grid = Grids.busy();
        grid.grid(5, 4);
        grid.pixel(0, 0, 2, 2);
        grid.pixel(3, 1, 2, 3);
        check.due("the first one to come", grid.program(0, 2000, 0, 0), 1);
        grid.tick(10);
        check.due("none came to 0", grid.ofPixel(0, 4), 0);
        check.due("none came to 1", grid.ofPixel(1, 4), 0);
        check.due("no work", grid.spent(false), 0);
    }

    private static void fortyDrivesAreGone() {
        Grid grid = new Grid();
        for (int round = 0; round < 2; round++) {
            grid.pixel(0, 0, 1, 1);
            for (int i = 1; i <= 40; i++) {
                check.due("drives of round " + round, grid.program(0, i, 1, 1), i);
            }
            check.state(grid, "one more of round " + round, () -> grid.program(0, 1, 1, 1));
            grid.grid(3, 3);
        }
    }

    private static void picturesAreGone() {
        Grid grid = new Grid();
        for (int round = 0; round < 2; round++) {
            check.outside(grid, "no picture in round " + round, () -> grid.ghosts(0));
            for (int i = 0; i < 10; i++) {
                check.due("picture of round " + round, grid.picture(), i);
            }
            check.state(grid, "one more of round " + round, () -> grid.picture());
            grid.grid(3, 3);
        }
    }

    private static void theLastTickIsGone() {
        Grid grid = Grids.at(2000);
        check.state(grid, "no more ticks", () -> grid.tick(1));
        grid.grid(2, 12);
        check.due("the tick", grid.now(), 0);
        grid.tick(50);
        check.due("ticks anew", grid.now(), 50);
    }

    public static void main(String[] args) {
        eachSize();
        width();
        height();
        asAtFirst();
        smallerAndLargerAgain();
        costsAndPlatesStay();
        pixelsAreGone();
        eightPixelsAreGone();
        programsAreGone();
        fortyDrivesAreGone();
        picturesAreGone();
        theLastTickIsGone();
        check.end();
    }
}
