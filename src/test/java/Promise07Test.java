/** Promise 7, drive: "Drives a pixel now." */
public final class Promise07Test {
    private static final Check check = new Check("Promise07Test");

    /** "@throws IndexOutOfBoundsException if there is no such pixel" */
    private static void pixel() {
        Grid grid = Grids.busy();
        for (int pixel : Check.beyond(0, 1)) {
            check.outside(grid, "pixel " + pixel, () -> grid.drive(pixel, 5, 5));
        }
        check.outside(grid, "pixel 7", () -> grid.drive(7, 5, 5));
        check.outside(grid, "pixel 8", () -> grid.drive(8, 5, 5));
        grid.drive(0, 1, 2);
        check.due("the first one", grid.ofPixel(0, 4), 2);
        grid.drive(1, 3, 4);
        check.due("the last one", grid.ofPixel(1, 4), 4);
        check.due("the first one still", grid.ofPixel(0, 4), 2);
        Grid none = new Grid();
        check.outside(none, "without pixels", () -> none.drive(0, 5, 5));
    }

    private static void eight() {
        Grid grid = new Grid();
        for (int i = 0; i < 8; i++) {
            grid.pixel(i % 4, i / 4, 1, 1);
        }
        for (int i = 0; i < 8; i++) {
            check.due("drive " + i, grid.drive(i, 2, i + 1), 4 * (i + 1));
        }
        for (int i = 0; i < 8; i++) {
            check.due("strength of " + i, grid.ofPixel(i, 4), i + 1);
        }
        check.outside(grid, "pixel 8", () -> grid.drive(8, 1, 1));
        check.outside(grid, "pixel -1", () -> grid.drive(-1, 1, 1));
    }

    /** "@param direction 0 to 14" */
    private static void direction() {
        Grid grid = Grids.busy();
        for (int direction : Check.beyond(0, 14)) {
            check.argument(grid, "direction " + direction, () -> grid.drive(0, direction, 5));
            check.argument(grid, "direction " + direction + " without strength", () -> grid.drive(1, direction, 0));
        }
        grid.drive(0, 0, 5);
        check.due("the first direction", grid.ofPixel(0, 3), 0);
        grid.drive(0, 14, 5);
        check.due("the last direction", grid.ofPixel(0, 3), 14);
        int[] squares = {0, 1, 4, 9, 16, 25, 36, 49, 49, 36, 25, 16, 9, 4, 1};
        Grid one = new Grid();
        one.pixel(0, 0, 1, 1);
        for (int direction = 0; direction < 15; direction++) {
            int before = one.energy();
            check.due("drive to " + direction, one.drive(0, direction, 3), 3 * squares[direction] - before);
            check.due("energy", one.energyAnew(), 3 * squares[direction]);
        }
    }

    /** "@param strength 0 to 100" */
    private static void strength() {
        Grid grid = Grids.busy();
        for (int strength : Check.beyond(0, 100)) {
            check.argument(grid, "strength " + strength, () -> grid.drive(0, 5, strength));
            check.argument(grid, "strength " + strength + " of its direction", () -> grid.drive(1, 7, strength));
        }
        grid.drive(0, 5, 100);
        check.due("the last strength", grid.ofPixel(0, 4), 100);
        grid.drive(0, 5, 0);
        check.due("the first strength", grid.ofPixel(0, 4), 0);
        check.due("the direction is kept", grid.ofPixel(0, 3), 5);
    }

    /** "If several exceptions apply to a call, the one that its comment lists first is thrown." */
    private static void theFirstException() {
        Grid grid = Grids.busy();
        check.outside(grid, "no pixel, no direction", () -> grid.drive(2, 15, 5));
        check.outside(grid, "no pixel, no strength", () -> grid.drive(2, 5, 101));
        check.outside(grid, "nothing of all", () -> grid.drive(-1, -1, -1));
        check.argument(grid, "neither direction nor strength", () -> grid.drive(0, 15, 101));
    }

    /** "A cell in a pixel has, besides, the strength of the field of that, 0 to 100, times the square" */
    private static void work() {
        Grid grid = new Grid();
        grid.pixel(1, 1, 2, 2);
        grid.pixel(0, 0, 1, 1);
        check.due("drive(0, 3, 10)", grid.drive(0, 3, 10), 4 * 10 * 9);
        check.due("twice as strong", grid.drive(0, 3, 20), 360);
        check.due("the same again", grid.drive(0, 3, 20), 0);
        check.due("turned", grid.drive(0, 14, 20), 80 - 720);
        check.due("the strongest", grid.drive(0, 14, 100), 400 - 80);
        grid.anchor(1, 1, NemaGrid.FIXED, 14, 1);
        check.due("a FIXED cell counts", grid.drive(0, 1, 100), 300 + 400 - 300);
        check.due("energy", grid.energy(), 704);
        check.due("energy anew", grid.energyAnew(), 704);
        check.due("without a field", grid.drive(0, 1, 0), -700);
        check.due("nothing turned", grid.told(2, 2, 0), 0);
        check.due("the other one", grid.drive(1, 7, 1), 49);
        grid.anchor(0, 0, NemaGrid.WEAK, 1, 2);
        check.due("a WEAK one counts both", grid.energy(), 4 + 49 + 2);
        check.due("work", grid.spent(false), 4 + 49 + 2);
        check.due("no heat", grid.spent(true), 0);
        check.due("no tick", grid.now(), 0);
    }

    private static void now() {
        Grid grid = new Grid();
        grid.pixel(0, 0, 1, 1);
        grid.program(0, 1, 4, 10);
        grid.drive(0, 2, 50);
        check.due("at once", grid.ofPixel(0, 3), 2);
        grid.tick(1);
        check.due("until the next one comes", grid.ofPixel(0, 3), 4);
        check.due("a drive now is none to come", grid.program(0, 5, 0, 0), 1);
    }

    private static void withoutStrength() {
        Grid grid = new Grid();
        grid.turn(0, 0, 3);
        grid.pixel(0, 0, 2, 2);
        check.due("no work", grid.drive(0, 7, 0), 0);
        check.due("the field turns all the same", grid.ofPixel(0, 3), 7);
        check.due("no work again", grid.drive(0, 14, 0), 0);
        check.due("and again", grid.ofPixel(0, 3), 14);
    }

    public static void main(String[] args) {
        pixel();
        eight();
        direction();
        strength();
        theFirstException();
        work();
        now();
        withoutStrength();
        check.end();
    }
}
