/** Promise 8, program: "Puts a drive into the program of a pixel." */
public final class Promise08Test {
    private static final Check check = new Check("Promise08Test");

    /** "@throws IndexOutOfBoundsException if there is no such pixel" */
    private static void pixel() {
        Grid grid = Grids.busy();
        for (int pixel : Check.beyond(0, 1)) {
            check.outside(grid, "pixel " + pixel, () -> grid.program(pixel, 3, 5, 5));
        }
        check.outside(grid, "pixel 8", () -> grid.program(8, 3, 5, 5));
        grid.program(0, 3, 1, 2);
        grid.program(1, 3, 4, 5);
        grid.tick(1);
        check.due("the first one", grid.ofPixel(0, 4), 2);
        check.due("the last one", grid.ofPixel(1, 4), 5);
        Grid none = new Grid();
        check.outside(none, "without pixels", () -> none.program(0, 1, 0, 0));
    }

    private static void eight() {
        Grid grid = new Grid();
        for (int i = 0; i < 8; i++) {
            grid.pixel(i % 4, i / 4, 1, 1);
            check.due("drives after that of " + i, grid.program(i, 1, 2, i + 1), i + 1);
        }
        check.outside(grid, "pixel 8", () -> grid.program(8, 1, 1, 1));
        check.outside(grid, "pixel -1", () -> grid.program(-1, 1, 1, 1));
        grid.tick(1);
        for (int i = 0; i < 8; i++) {
            check.due("strength of " + i, grid.ofPixel(i, 4), i + 1);
        }
    }

    /** "@param tick a later one, to 2000" */
    private static void tickAtFirst() {
        Grid grid = new Grid();
        grid.pixel(0, 0, 4, 4);
        for (int tick : new int[] {Integer.MIN_VALUE, -1, 0, 2001, Integer.MAX_VALUE}) {
            check.argument(grid, "tick " + tick, () -> grid.program(0, tick, 1, 1));
        }
        check.due("the first tick", grid.program(0, 1, 1, 1), 1);
        check.due("the last tick", grid.program(0, 2000, 2, 2), 2);
        grid.tick(1);
        check.due("the first one came", grid.ofPixel(0, 4), 1);
        check.due("the other one is to come", grid.program(0, 2, 1, 1), 2);
    }

    private static void aLaterTick() {
        Grid grid = Grids.at(7);
        grid.pixel(0, 0, 1, 1);
        check.argument(grid, "one before now", () -> grid.program(0, 6, 1, 1));
        check.argument(grid, "now", () -> grid.program(0, 7, 1, 1));
        check.argument(grid, "the tick 1", () -> grid.program(0, 1, 1, 1));
        check.argument(grid, "the tick 0", () -> grid.program(0, 0, 1, 1));
        check.argument(grid, "one above 2000", () -> grid.program(0, 2001, 1, 1));
        check.due("the next one", grid.program(0, 8, 1, 1), 1);
        check.due("2000", grid.program(0, 2000, 2, 2), 2);
        grid.tick(1);
        check.due("it came at the next one", grid.ofPixel(0, 4), 1);
        check.argument(grid, "the one that is now", () -> grid.program(0, 8, 1, 1));
    }

    private static void theLastTick() {
        Grid grid = Grids.at(1999);
        grid.pixel(0, 0, 1, 1);
        check.argument(grid, "now at 1999", () -> grid.program(0, 1999, 1, 1));
        check.due("2000 at 1999", grid.program(0, 2000, 3, 5), 1);
        grid.tick(1);
        check.due("it came at 2000", grid.ofPixel(0, 4), 5);
        check.argument(grid, "2000 at 2000", () -> grid.program(0, 2000, 1, 1));
        check.argument(grid, "2001 at 2000", () -> grid.program(0, 2001, 1, 1));
    }

    /** "@param direction 0 to 14" */
    private static void direction() {
        Grid grid = Grids.busy();
        for (int direction : Check.beyond(0, 14)) {
            check.argument(grid, "direction " + direction, () -> grid.program(0, 3, direction, 5));
            check.argument(grid, "direction " + direction + ", the last tick",
                    () -> grid.program(1, 2000, direction, 5));
        }
        grid.program(0, 3, 0, 5);
        grid.program(1, 3, 14, 5);
        grid.tick(1);
        check.due("the first direction", grid.ofPixel(0, 3), 0);
        check.due("the last direction", grid.ofPixel(1, 3), 14);
    }

    /** "@param strength 0 to 100" */
    private static void strength() {
        Grid grid = Grids.busy();
        for (int strength : Check.beyond(0, 100)) {
            check.argument(grid, "strength " + strength, () -> grid.program(0, 3, 5, strength));
            check.argument(grid, "strength " + strength + ", the last tick",
                    () -> grid.program(1, 2000, 5, strength));
        }
        grid.drive(0, 1, 1);
        grid.program(0, 3, 5, 0);
        grid.program(1, 3, 5, 100);
        grid.tick(1);
        check.due("the first strength", grid.ofPixel(0, 4), 0);
        check.due("its direction", grid.ofPixel(0, 3), 5);
        check.due("the last strength", grid.ofPixel(1, 4), 100);
    }

    /** "@return how many drives are to come, of all pixels" */
    private static void howMany() {
        Grid grid = new Grid();
        grid.pixel(0, 0, 1, 1);
        grid.pixel(3, 3, 1, 1);
        check.due("the first one", grid.program(0, 3, 2, 10), 1);
        check.due("one of the other pixel", grid.program(1, 2, 1, 7), 2);
        check.due("one for the same tick", grid.program(0, 3, 1, 100), 3);
        check.due("the very same again", grid.program(0, 3, 1, 100), 4);
        check.due("one for the last tick", grid.program(0, 2000, 14, 0), 5);
        grid.tick(1);
        check.due("none came at 1", grid.program(1, 4, 0, 0), 6);
        grid.tick(1);
        check.due("one came at 2", grid.program(1, 4, 0, 0), 6);
        grid.tick(1);
        check.due("three came at 3", grid.program(1, 4, 0, 0), 4);
        grid.tick(1);
        check.due("three came at 4", grid.program(1, 5, 0, 0), 2);
    }

    /** "@throws IllegalStateException if 40 are to come" */
    private static void forty() {
        Grid grid = new Grid();
        grid.pixel(0, 0, 1, 1);
        grid.pixel(1, 0, 1, 1);
        for (int i = 1; i <= 40; i++) {
            check.due("drive " + i, grid.program(i % 2, i == 7 ? 1 : 2 + i % 5, 14, 100), i);
        }
        check.state(grid, "one more", () -> grid.program(0, 1, 3, 1));
        check.state(grid, "one more of the other pixel", () -> grid.program(1, 1, 3, 1));
        check.state(grid, "one more for the last tick", () -> grid.program(1, 2000, 0, 0));
        grid.tick(1);
        check.due("one came", grid.program(0, 9, 0, 0), 40);
        check.state(grid, "one more again", () -> grid.program(0, 9, 0, 0));
        grid.tick(8);
        check.due("all came", grid.program(0, 2000, 0, 0), 1);
    }

    private static void fortyForOneTick() {
        Grid grid = new Grid();
        grid.pixel(0, 0, 1, 1);
        for (int i = 1; i <= 40; i++) {
            check.due("drive " + i, grid.program(0, 3, i % 15, i), i);
        }
        check.state(grid, "one more", () -> grid.program(0, 3, 0, 99));
        grid.tick(2);
        check.state(grid, "one more at 2", () -> grid.program(0, 3, 0, 99));
        check.due("none came yet", grid.ofPixel(0, 4), 0);
        grid.tick(1);
        check.due("the last one came last", grid.ofPixel(0, 4), 40);
        check.due("and its direction", grid.ofPixel(0, 3), 10);
        check.due("none is left", grid.program(0, 4, 0, 99), 1);
    }

    /** "If several exceptions apply to a call, the one that its comment lists first is thrown." */
    private static void theFirstException() {
        Grid grid = Grids.busy();
        check.outside(grid, "no pixel, no tick", () -> grid.program(2, 2, 5, 5));
        check.outside(grid, "no pixel, no later tick", () -> grid.program(2, 2001, 5, 5));
        check.outside(grid, "no pixel, no direction", () -> grid.program(2, 3, 15, 5));
        check.outside(grid, "no pixel, no strength", () -> grid.program(-1, 3, 5, 101));
        check.outside(grid, "nothing of all", () -> grid.program(-1, 0, -1, -1));
        check.argument(grid, "all but the pixel", () -> grid.program(0, 2, 15, 101));
    }

    private static void theFirstExceptionWithForty() {
        Grid grid = new Grid();
        grid.tick(1);
        grid.pixel(0, 0, 1, 1);
        for (int i = 1; i <= 40; i++) {
            grid.program(0, 2, 3, 4);
        }
        check.outside(grid, "one more of no pixel", () -> grid.program(1, 2, 3, 4));
        check.outside(grid, "one more of the pixel -1", () -> grid.program(-1, 2, 3, 4));
        check.argument(grid, "one more for now", () -> grid.program(0, 1, 3, 4));
        check.argument(grid, "one more above 2000", () -> grid.program(0, 2001, 3, 4));
        check.argument(grid, "one more to -1", () -> grid.program(0, 2, -1, 4));
        check.argument(grid, "one more to 15", () -> grid.program(0, 2, 15, 4));
        check.argument(grid, "one more by -1", () -> grid.program(0, 2, 3, -1));
        check.argument(grid, "one more by 101", () -> grid.program(0, 2, 3, 101));
        check.state(grid, "one more", () -> grid.program(0, 2, 3, 4));
    }

    private static void nothingNow() {
        Grid grid = new Grid();
        grid.pixel(0, 0, 1, 1);
        grid.program(0, 1, 7, 100);
        check.due("direction", grid.ofPixel(0, 3), 0);
        check.due("strength", grid.ofPixel(0, 4), 0);
        check.due("energy", grid.energy(), 0);
        check.due("work", grid.spent(false), 0);
    }

    /** The last one of forty is as good as the first one. */
    private static void theFortieth() {
        Grid grid = new Grid();
        for (int i = 0; i < 8; i++) {
            grid.pixel(i % 4, i / 4, 1, 1);
        }
        for (int i = 1; i < 40; i++) {
            grid.program(6, 2, 3, i);
        }
        check.due("the fortieth one", grid.program(7, 1, 14, 100), 40);
        grid.tick(1);
        check.due("its direction", grid.ofPixel(7, 3), 14);
        check.due("its strength", grid.ofPixel(7, 4), 100);
        for (int pixel = 0; pixel < 7; pixel++) {
            check.due("none of pixel " + pixel, grid.ofPixel(pixel, 4), 0);
        }
        grid.tick(1);
        check.due("the others", grid.ofPixel(6, 4), 39);
    }

    /** A drive of the strength 0 for a field of the strength 0 turns that all the same. */
    private static void withoutStrength() {
        Grid grid = new Grid();
        grid.pixel(0, 0, 1, 1);
        grid.program(0, 1, 9, 0);
        grid.tick(1);
        check.due("direction", grid.ofPixel(0, 3), 9);
        check.due("strength", grid.ofPixel(0, 4), 0);
        check.due("work", grid.spent(false), 0);
    }

    public static void main(String[] args) {
        pixel();
        eight();
        tickAtFirst();
        aLaterTick();
        theLastTick();
        direction();
        strength();
        howMany();
        forty();
        fortyForOneTick();
        theFortieth();
        withoutStrength();
        theFirstException();
        theFirstExceptionWithForty();
        nothingNow();
        check.end();
    }
}
