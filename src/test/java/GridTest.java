/** Promises 1 to 3: a new object, grid, costs. */
public final class GridTest {
    private static final Check check = new Check("GridTest");

    private static void dueBlank(NemaGrid grid, String name, int width, int height) {
        check.due(name + ": tick", grid.now(), 0);
        check.due(name + ": energy", grid.energy(), 0);
        check.due(name + ": energy anew", grid.energyAnew(), 0);
        check.due(name + ": work", grid.spent(false), 0);
        check.due(name + ": heat", grid.spent(true), 0);
        check.due(name + ": defects", grid.defects(), 0);
        for (int y = 0; y < height; y++) {
            for (int x = 0; x < width; x++) {
                check.due(name + ": direction", grid.told(x, y, 0), 0);
                check.due(name + ": kind", grid.told(x, y, 1), NemaGrid.FREE);
                check.due(name + ": pixel", grid.told(x, y, 2), NemaGrid.NONE);
                check.due(name + ": energy of a cell", grid.told(x, y, 4), 0);
            }
        }
        check.outside(grid, name + ": a cell too far", () -> grid.told(width, 0, 0));
        check.outside(grid, name + ": a cell too low", () -> grid.told(0, height, 0));
        check.outside(grid, name + ": a pixel", () -> grid.ofPixel(0, 0));
        check.outside(grid, name + ": a picture", () -> grid.ghosts(0));
        check.outside(grid, name + ": a defect", () -> grid.defect(0, 0));
    }

    private static void newObject() {
        NemaGrid grid = new NemaGrid();
        dueBlank(grid, "new", 4, 4);
        check.due("the grey of a new cell", grid.told(0, 0, 3), 0);
        check.due("the plates at first", grid.plates(0), 0);
        check.due("the first costs", grid.turn(1, 1, 3), 36);
        NemaGrid another = new NemaGrid();
        dueBlank(another, "another new one", 4, 4);
        check.due("the first pixel", another.pixel(3, 3, 1, 1), 0);
        check.due("its field", another.ofPixel(0, 3) * 1000 + another.ofPixel(0, 4), 0);
        check.due("its flicker", another.ofPixel(0, 1), 0);
        check.due("no drives to come", another.program(0, 1, 0, 0), 1);
        check.due("the first picture", another.picture(), 0);
    }

    private static void begin() {
        NemaGrid grid = new NemaGrid();
        int[] sides = {2, 3, 7, 11, 12};
        for (int width : sides) {
            for (int height : sides) {
                grid.grid(width, height);
                dueBlank(grid, width + " by " + height, width, height);
            }
        }
        for (int side : new int[] {Integer.MIN_VALUE, -1, 0, 1, 13, 144, Integer.MAX_VALUE}) {
            check.argument(grid, "grid(" + side + ", 4)", () -> grid.grid(side, 4));
            check.argument(grid, "grid(4, " + side + ")", () -> grid.grid(4, side));
        }
    }

    private static NemaGrid busy() {
        NemaGrid grid = new NemaGrid();
        grid.costs(3, 5);
        grid.plates(2);
        grid.pixel(0, 0, 2, 2);
        grid.pixel(2, 0, 2, 2);
        grid.program(0, 3, 9, 40);
        grid.program(1, 9, 9, 40);
        grid.drive(1, 7, 50);
        grid.turn(0, 0, 4);
        grid.anchor(2, 2, NemaGrid.WEAK, 6, 30);
        grid.anchor(3, 3, NemaGrid.FIXED, 6, 30);
        grid.picture();
        grid.tick(4);
        return grid;
    }

    private static void beginAnew() {
        NemaGrid grid = busy();
        grid.grid(4, 4);
        dueBlank(grid, "anew", 4, 4);
        check.due("costs stay, across and down", grid.turn(0, 0, 2), 3 * 4 + 5 * 4);
        check.due("across alone", grid.turn(1, 0, 2), -12 + 12 + 20);
        check.due("plates stay", grid.told(3, 3, 3), 55);
        check.due("the plates", grid.plates(0), 2);
        check.due("the first pixel", grid.pixel(0, 0, 4, 4), 0);
        check.due("its strength", grid.ofPixel(0, 4), 0);
        check.due("its direction", grid.ofPixel(0, 3), 0);
        check.due("its flicker", grid.ofPixel(0, 1), 0);
        check.due("programs are gone", grid.program(0, 2000, 0, 0), 1);
        check.due("the first picture", grid.picture(), 0);
        check.due("the first tick counts from 0", grid.now(), 0);

        NemaGrid programs = busy();
        programs.grid(4, 4);
        programs.pixel(0, 0, 2, 2);
        programs.pixel(2, 0, 2, 2);
        programs.tick(10);
        check.due("no drive came", programs.ofPixel(1, 4), 0);
        check.due("no work", programs.spent(false), 0);
    }

    private static void costs() {
        NemaGrid grid = new NemaGrid();
        check.due("costs without energy", grid.costs(20, 20), 0);
        grid.costs(1, 1);
        grid.turn(1, 1, 3);
        check.due("costs(3, 5)", grid.costs(3, 5), 18 * 3 + 18 * 5 - 36);
        check.due("energy", grid.energy(), 144);
        check.due("costs(0, 5)", grid.costs(0, 5), -54);
        check.due("costs(0, 0)", grid.costs(0, 0), -90);
        check.due("work", grid.spent(false), 0);
        check.due("costs(20, 20)", grid.costs(20, 20), 36 * 20);
        check.due("costs(20, 0)", grid.costs(20, 0), -18 * 20);
        check.due("the same again", grid.costs(20, 0), 0);
        check.due("all work", grid.spent(false), 360);
        check.due("no heat", grid.spent(true), 0);
        for (int cost : new int[] {Integer.MIN_VALUE, -1, 21, Integer.MAX_VALUE}) {
            check.argument(grid, "costs(" + cost + ", 1)", () -> grid.costs(cost, 1));
            check.argument(grid, "costs(1, " + cost + ")", () -> grid.costs(1, cost));
        }
    }

    public static void main(String[] args) {
        newObject();
        begin();
        beginAnew();
        costs();
        check.end();
    }
}
