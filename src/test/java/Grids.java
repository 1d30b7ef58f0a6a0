/** Grids that several tests begin with. */
final class Grids {
    private Grids() {
    }

    /** A grid with something of everything, so that what a refused call changes can be seen: 5 by 4, at the tick 2. */
    static Grid busy() {
        Grid grid = new Grid();
        grid.grid(5, 4);
        grid.costs(3, 5);
        grid.plates(2);
        grid.pixel(0, 0, 2, 2);
        grid.pixel(3, 1, 2, 3);
        grid.drive(1, 7, 50);
        grid.turn(1, 1, 4);
        grid.turn(2, 1, 8);
        grid.turn(2, 2, 12);
        grid.anchor(2, 0, NemaGrid.WEAK, 6, 30);
        grid.anchor(2, 3, NemaGrid.FIXED, 11, 30);
        grid.picture();
        grid.tick(2);
        grid.program(0, 4, 9, 40);
        grid.program(1, 6, 3, 90);
        grid.turn(0, 3, 5);
        grid.plates(3);
        grid.picture();
        return grid;
    }

    /** A grid at a tick, of ticks that change nothing in it. */
    static Grid at(int tick) {
        Grid grid = new Grid();
        for (int now = 0; now < tick; now += 50) {
            grid.tick(Math.min(50, tick - now));
        }
        return grid;
    }

    /** A grid of these directions, a row each. */
    static Grid of(int[]... rows) {
        Grid grid = new Grid();
        grid.grid(rows[0].length, rows.length);
        for (int y = 0; y < rows.length; y++) {
            for (int x = 0; x < rows[y].length; x++) {
                if (rows[y][x] != 0) {
                    grid.turn(x, y, rows[y][x]);
                }
            }
        }
        return grid;
    }

    /** A grid with the place 1, 1 of these directions, and 0 round it. */
    static Grid place(int first, int second, int third, int fourth) {
        Grid grid = new Grid();
        grid.turn(1, 1, first);
        grid.turn(2, 1, second);
        grid.turn(2, 2, third);
        grid.turn(1, 2, fourth);
        return grid;
    }

    /** 4 by 4 cells with six defects: 1, -1, 1 in the first row of places, -1, 1, -1 in the second one, none below. */
    static Grid checkered() {
        return of(new int[] {0, 4, 0, 4}, new int[] {12, 8, 12, 8}, new int[] {0, 4, 0, 4}, new int[] {0, 4, 0, 4});
    }

    /** A grid of which each place is a defect, with the winding 1 and -1 in turns, begun with 1. */
    static Grid fullOfDefects(int width, int height) {
        int[][] directions = {{0, 4}, {12, 8}};
        Grid grid = new Grid();
        grid.grid(width, height);
        for (int i = 0; i < width * height; i++) {
            grid.turn(i % width, i / width, directions[i / width % 2][i % width % 2]);
        }
        return grid;
    }

    /** A grid without defects, which would have some along its edges if there were cells of 0 beyond them. */
    static Grid withoutDefects(int width, int height) {
        Grid grid = new Grid();
        grid.grid(width, height);
        for (int i = 0; i < width * height; i++) {
            grid.turn(i % width, i / width, (i % width + i / width) % 2 == 0 ? 5 : 10);
        }
        return grid;
    }

    /** Sizes at the ends of their range, and between, that are not alike across and down. */
    static int[][] longSizes() {
        return new int[][] {{12, 2}, {2, 12}, {12, 5}, {5, 12}, {12, 11}, {11, 12}, {3, 2}, {2, 3}};
    }
}
