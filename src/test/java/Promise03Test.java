/** Promise 3, costs: "Sets the costs." */
public final class Promise03Test {
    private static final Check check = new Check("Promise03Test");

    /** 2 by 2 cells with 9 across and 4 down for costs of 1. */
    private static Grid nineAcrossFourDown() {
        Grid grid = new Grid();
        grid.grid(2, 2);
        grid.costs(0, 0);
        grid.turn(0, 0, 2);
        grid.turn(1, 0, 14);
        grid.turn(0, 1, 2);
        grid.turn(1, 1, 1);
        check.due("without costs", grid.energy(), 0);
        check.due("one across", grid.costs(1, 0), 9 + 1);
        check.due("one down", grid.costs(0, 1), 4 - 10);
        check.due("back", grid.costs(1, 1), 10);
        return grid;
    }

    /** "@param across 0 to 20" */
    private static void across() {
        Grid grid = nineAcrossFourDown();
        check.due("the first value", grid.costs(0, 1), -10);
        check.due("the last value", grid.costs(20, 1), 200);
        check.due("energy", grid.energy(), 204);
        for (int across : Check.beyond(0, 20)) {
            check.argument(grid, "across " + across, () -> grid.costs(across, 2));
            check.argument(grid, "across " + across + " with the least", () -> grid.costs(across, 0));
            check.argument(grid, "across " + across + " with the most", () -> grid.costs(across, 20));
        }
        check.due("they stayed", grid.costs(20, 1), 0);
    }

    /** "@param down 0 to 20" */
    private static void down() {
        Grid grid = nineAcrossFourDown();
        check.due("the first value", grid.costs(1, 0), -4);
        check.due("the last value", grid.costs(1, 20), 80);
        check.due("energy", grid.energy(), 90);
        for (int down : Check.beyond(0, 20)) {
            check.argument(grid, "down " + down, () -> grid.costs(2, down));
            check.argument(grid, "down " + down + " with the least", () -> grid.costs(0, down));
            check.argument(grid, "down " + down + " with the most", () -> grid.costs(20, down));
            check.argument(grid, "both " + down, () -> grid.costs(down, down));
        }
        check.due("they stayed", grid.costs(1, 20), 0);
    }

    private static void onABusyGrid() {
        Grid grid = Grids.busy();
        check.argument(grid, "across 21", () -> grid.costs(21, 5));
        check.argument(grid, "down 21", () -> grid.costs(3, 21));
        check.argument(grid, "across -1", () -> grid.costs(-1, 5));
        check.argument(grid, "down -1", () -> grid.costs(3, -1));
    }

    /** "@return the work of that": "What the energy grows by something that is told is work, also when it falls" */
    private static void work() {
        Grid grid = new Grid();
        check.due("without bends", grid.costs(20, 20), 0);
        check.due("without bends, down", grid.costs(1, 1), 0);
        grid.turn(1, 1, 3);
        check.due("costs(3, 5)", grid.costs(3, 5), 18 * 3 + 18 * 5 - 36);
        check.due("energy", grid.energy(), 144);
        check.due("costs(0, 5)", grid.costs(0, 5), -54);
        check.due("costs(0, 0)", grid.costs(0, 0), -90);
        check.due("work after the fall", grid.spent(false), 0);
        check.due("costs(20, 20)", grid.costs(20, 20), 36 * 20);
        check.due("costs(20, 0)", grid.costs(20, 0), -18 * 20);
        check.due("the same again", grid.costs(20, 0), 0);
        check.due("all work", grid.spent(false), 360);
        check.due("no heat", grid.spent(true), 0);
        check.due("energy anew", grid.energyAnew(), 360);
    }

    /** "the cost, across for those beside one another, down for those above one another" */
    private static void besideAndAbove() {
        Grid rows = new Grid();
        for (int x = 0; x < 4; x++) {
            rows.turn(x, 0, 2);
        }
        check.due("nothing bends across", rows.costs(20, 1), 0);
        check.due("four bend down", rows.costs(20, 2), 4 * 4);
        Grid columns = new Grid();
        for (int y = 0; y < 4; y++) {
            columns.turn(3, y, 2);
        }
        check.due("nothing bends down", columns.costs(1, 20), 0);
        check.due("four bend across", columns.costs(2, 20), 4 * 4);
    }

    private static void fieldsAndAnchorsCostAlike() {
        Grid grid = new Grid();
        grid.anchor(0, 0, NemaGrid.WEAK, 5, 10);
        grid.pixel(3, 3, 1, 1);
        grid.drive(0, 2, 10);
        check.due("what holds costs the same", grid.costs(0, 0), 0);
        check.due("still", grid.costs(20, 20), 0);
        check.due("energy", grid.energy(), 250 + 40);
    }

    public static void main(String[] args) {
        across();
        down();
        onABusyGrid();
        work();
        besideAndAbove();
        fieldsAndAnchorsCostAlike();
        check.end();
    }
}
