/** Promises 14 and 15, energy and energyAnew: "Returns the energy." "Returns the same, found anew from all cells." */
public final class Promise14Test {
    private static final Check check = new Check("Promise14Test");
    private static final int[] SQUARES = {0, 1, 4, 9, 16, 25, 36, 49, 49, 36, 25, 16, 9, 4, 1};

    private static void dueEnergy(Grid grid, String name, int energy) {
        check.due(name + ": energy", grid.energy(), energy);
        check.due(name + ": energy anew", grid.energyAnew(), energy);
    }

    /** "the number from -7 to 7"; "how far they are apart is that without its sign" */
    private static void eachPair() {
        for (int a = 0; a < 15; a++) {
            Grid across = new Grid();
            across.grid(2, 2);
            across.costs(1, 0);
            Grid down = new Grid();
            down.grid(2, 2);
            down.costs(0, 1);
            for (int b = 0; b < 15; b++) {
                across.turn(0, 0, a);
                across.turn(1, 0, b);
                dueEnergy(across, a + " beside " + b, SQUARES[(b - a + 15) % 15]);
                down.turn(0, 0, a);
                down.turn(0, 1, b);
                dueEnergy(down, a + " above " + b, SQUARES[(b - a + 15) % 15]);
            }
        }
    }

    /** "its energy is the strength times the square of how far it is apart from that" */
    private static void eachPairOfWeak() {
        for (int a = 0; a < 15; a++) {
            Grid grid = new Grid();
            grid.costs(0, 0);
            grid.turn(3, 3, a);
            for (int b = 0; b < 15; b++) {
                grid.anchor(3, 3, NemaGrid.WEAK, b, 3);
                dueEnergy(grid, a + " anchored at " + b, 3 * SQUARES[(b - a + 15) % 15]);
            }
        }
    }

    /** "the strength of the field of that, 0 to 100, times the square of how far its direction is apart" */
    private static void eachPairOfField() {
        for (int a = 0; a < 15; a++) {
            Grid grid = new Grid();
            grid.costs(0, 0);
            grid.turn(3, 3, a);
            grid.pixel(3, 3, 1, 1);
            for (int b = 0; b < 15; b++) {
                grid.drive(0, b, 4);
                dueEnergy(grid, a + " in the field " + b, 4 * SQUARES[(b - a + 15) % 15]);
            }
        }
    }

    private static void allAtOnce() {
        Grid grid = new Grid();
        grid.grid(2, 3);
        grid.costs(2, 5);
        grid.turn(0, 0, 1);
        dueEnergy(grid, "a corner", 2 + 5);
        grid.turn(1, 2, 3);
        dueEnergy(grid, "the other corner", 7 + 9 * 7);
        grid.anchor(0, 0, NemaGrid.WEAK, 3, 10);
        dueEnergy(grid, "WEAK", 70 + 40);
        grid.pixel(0, 0, 2, 3);
        dueEnergy(grid, "a pixel", 110);
        grid.drive(0, 14, 3);
        dueEnergy(grid, "its field", 110 + 3 * (4 + 16 + 4 * 1));
        grid.anchor(0, 0, NemaGrid.FIXED, 1, 1);
        dueEnergy(grid, "FIXED", 110 + 72 - 40);
        grid.costs(0, 0);
        dueEnergy(grid, "the field alone", 72);
    }

    private static void theMost() {
        Grid grid = new Grid();
        grid.grid(12, 12);
        grid.pixel(0, 0, 12, 12);
        grid.drive(0, 7, 100);
        dueEnergy(grid, "the field of all cells", 144 * 100 * 49);
        grid.costs(20, 20);
        for (int i = 0; i < 144; i++) {
            grid.anchor(i % 12, i / 12, NemaGrid.WEAK, 7, 100);
        }
        dueEnergy(grid, "all anchored besides", 2 * 144 * 100 * 49);
        for (int i = 0; i < 144; i++) {
            if ((i % 12 + i / 12) % 2 == 0) {
                grid.turn(i % 12, i / 12, 14);
            }
        }
        dueEnergy(grid, "and bent a little", 2 * 144 * 100 * 49 + 264 * 20);
        check.due("work", grid.spent(false), 2 * 144 * 100 * 49 + 264 * 20);
    }

    private static void thePairsAtTheEdges() {
        Grid grid = new Grid();
        grid.grid(3, 2);
        grid.costs(2, 5);
        grid.turn(2, 1, 3);
        dueEnergy(grid, "the last cell", 9 * 7);
        grid.turn(0, 1, 1);
        dueEnergy(grid, "the last row", 9 * 7 + 7);
        grid.turn(2, 0, 14);
        dueEnergy(grid, "the last column", 7 + 2 * 9 + 5 * 16 + 2);
        grid.grid(12, 12);
        grid.turn(11, 11, 2);
        dueEnergy(grid, "the last of all", 4 * 7);
        grid.turn(11, 10, 2);
        dueEnergy(grid, "the last two", 4 * (2 + 2 + 5));
    }

    private static void thePairsOfLongGrids() {
        for (int[] size : Grids.longSizes()) {
            Grid grid = new Grid();
            grid.grid(size[0], size[1]);
            grid.costs(1, 20);
            for (int i = 0; i < size[0] * size[1]; i++) {
                if (grid.calls() > Grid.MOST_CALLS - 5) {
                    grid = new Grid();
                    grid.grid(size[0], size[1]);
                    grid.costs(1, 20);
                }
                int x = i % size[0];
                int y = i / size[0];
                int across = (x > 0 ? 1 : 0) + (x < size[0] - 1 ? 1 : 0);
                int down = (y > 0 ? 1 : 0) + (y < size[1] - 1 ? 1 : 0);
                String cell = x + ", " + y + " of " + size[0] + " by " + size[1];
                check.due("work of " + cell, grid.turn(x, y, 1), across + 20 * down);
                check.due("energy of " + cell, grid.told(x, y, 4), across + 20 * down);
                dueEnergy(grid, cell, across + 20 * down);
                grid.turn(x, y, 0);
            }
        }
    }

    private static void afterEachKindOfCall() {
        Grid grid = Grids.busy();
        check.due("of a busy one", grid.energy(), grid.energyAnew());
        grid.tick(1);
        check.due("after a tick", grid.energy(), grid.energyAnew());
        grid.tick(5);
        check.due("after drives", grid.energy(), grid.energyAnew());
        check.due("energy is work less heat", grid.energy(), grid.spent(false) - grid.spent(true));
        grid.grid(3, 3);
        dueEnergy(grid, "anew", 0);
    }

    public static void main(String[] args) {
        eachPair();
        eachPairOfWeak();
        eachPairOfField();
        allAtOnce();
        theMost();
        thePairsAtTheEdges();
        thePairsOfLongGrids();
        afterEachKindOfCall();
        check.end();
    }
}
