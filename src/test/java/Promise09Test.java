/** Promise 9, tick: "Lets ticks go by." */
public final class Promise09Test {
    private static final Check check = new Check("Promise09Test");

    /** "@param ticks 1 to 50" */
    private static void ticks() {
        Grid grid = Grids.busy();
        for (int ticks : Check.beyond(1, 50)) {
            check.argument(grid, "tick(" + ticks + ")", () -> grid.tick(ticks));
        }
        check.argument(grid, "tick(-1)", () -> grid.tick(-1));
        check.argument(grid, "tick(2001)", () -> grid.tick(2001));
        check.due("still", grid.now(), 2);
        grid.tick(1);
        check.due("the first value", grid.now(), 3);
        grid.tick(50);
        check.due("the last value", grid.now(), 53);
        grid.tick(49);
        check.due("one less", grid.now(), 102);
    }

    /** "@throws IllegalStateException if the tick would be above 2000" */
    private static void above2000() {
        Grid grid = Grids.at(1949);
        grid.pixel(0, 0, 1, 1);
        grid.turn(1, 1, 7);
        grid.program(0, 2000, 3, 50);
        dueAfterFifty(grid.twin(), 1999, 0);
        grid.tick(1);
        dueAfterFifty(grid.twin(), 2000, 50);
        grid.tick(1);
        check.state(grid, "50 to 2001", () -> grid.tick(50));
        grid.tick(49);
        check.due("49 to 2000", grid.now(), 2000);
        check.due("the drive of 2000 came", grid.ofPixel(0, 4), 50);
        check.state(grid, "one more", () -> grid.tick(1));
        check.state(grid, "fifty more", () -> grid.tick(50));
    }

    private static void dueAfterFifty(NemaGrid grid, int now, int strength) {
        grid.tick(50);
        check.due("now after fifty", grid.now(), now);
        check.due("the drive of 2000 at " + now, grid.ofPixel(0, 4), strength);
    }

    private static void theLastTicks() {
        Grid grid = Grids.at(1998);
        grid.pixel(0, 0, 1, 1);
        grid.program(0, 1999, 4, 9);
        check.state(grid, "three", () -> grid.tick(3));
        grid.tick(1);
        check.due("1999", grid.now(), 1999);
        check.due("its drive", grid.ofPixel(0, 4), 9);
        check.state(grid, "two", () -> grid.tick(2));
        grid.tick(1);
        check.due("2000", grid.now(), 2000);
        check.state(grid, "one", () -> grid.tick(1));
    }

    /** "If several exceptions apply to a call, the one that its comment lists first is thrown." */
    private static void theFirstException() {
        Grid grid = Grids.at(2000);
        for (int ticks : Check.beyond(1, 50)) {
            check.argument(grid, "tick(" + ticks + ") at 2000", () -> grid.tick(ticks));
        }
        Grid before = Grids.at(1999);
        check.argument(before, "tick(51) at 1999", () -> before.tick(51));
        check.argument(before, "tick(0) at 1999", () -> before.tick(0));
        check.state(before, "tick(2) at 1999", () -> before.tick(2));
    }

    /** "@return the heat of them" */
    private static void heat() {
        Grid grid = new Grid();
        grid.costs(1, 0);
        grid.grid(3, 2);
        grid.anchor(2, 0, NemaGrid.FIXED, 4, 1);
        check.due("the first one", grid.tick(1), 16 - 10);
        check.due("the second one", grid.tick(1), 10 - 5);
        check.due("its own alone", grid.spent(true), 11);
        check.due("two together", grid.tick(2), 5 - 1);
        check.due("at rest", grid.tick(50), 0);
        check.due("all heat", grid.spent(true), 15);
        check.due("work", grid.spent(false), 16);
        check.due("energy", grid.energy(), 1);
    }

    /** "the drives for it come, in the order in which they were told, of all pixels: that is work" */
    private static void drives() {
        Grid grid = new Grid();
        grid.costs(0, 0);
        grid.pixel(0, 0, 1, 1);
        grid.pixel(1, 0, 1, 1);
        grid.anchor(0, 0, NemaGrid.FIXED, 0, 1);
        grid.anchor(1, 0, NemaGrid.FIXED, 0, 1);
        grid.program(0, 3, 2, 10);
        grid.program(1, 2, 1, 7);
        grid.program(0, 3, 1, 100);
        grid.program(1, 3, 3, 5);
        check.due("no heat at 1", grid.tick(1), 0);
        check.due("none came at 1", grid.spent(false), 0);
        grid.tick(1);
        check.due("one came at 2", grid.spent(false), 7);
        check.due("to the second pixel", grid.ofPixel(1, 4), 7);
        check.due("not to the first one", grid.ofPixel(0, 4), 0);
        check.due("no heat at 3", grid.tick(1), 0);
        check.due("of two the later told stays", grid.ofPixel(0, 3) * 1000 + grid.ofPixel(0, 4), 1100);
        check.due("the other pixel's", grid.ofPixel(1, 3) * 1000 + grid.ofPixel(1, 4), 3005);
        check.due("work of all", grid.spent(false), 100 + 45);
        check.due("energy", grid.energy(), 145);
        grid.tick(3);
        check.due("each came once", grid.spent(false), 145);
    }

    private static void theLaterToldComesLast() {
        int[][] orders = {{9, 4}, {4, 9}};
        for (int[] order : orders) {
            Grid grid = new Grid();
            grid.pixel(0, 0, 1, 1);
            grid.program(0, 5, order[0], order[0]);
            grid.program(0, 6, 1, 1);
            grid.program(0, 5, order[1], order[1]);
            grid.tick(5);
            check.due("direction", grid.ofPixel(0, 3), order[1]);
            check.due("strength", grid.ofPixel(0, 4), order[1]);
            grid.tick(1);
            check.due("the next one", grid.ofPixel(0, 3), 1);
        }
    }

    private static void drivesOfEachTickOfACall() {
        Grid grid = new Grid();
        grid.pixel(0, 0, 1, 1);
        grid.anchor(0, 0, NemaGrid.FIXED, 0, 1);
        grid.tick(3);
        grid.program(0, 53, 3, 1);
        grid.program(0, 4, 1, 1);
        grid.program(0, 54, 4, 1);
        grid.program(0, 30, 2, 1);
        grid.tick(50);
        check.due("the last tick of a call", grid.ofPixel(0, 3), 3);
        check.due("work of three", grid.spent(false), 9);
        check.due("one is left and one", grid.program(0, 55, 0, 0), 2);
        grid.tick(1);
        check.due("the one behind it", grid.ofPixel(0, 3), 4);
    }

    /** "In a tick, which is counted from 1, the drives for it come ...; then the grid relaxes" */
    private static void drivesComeFirst() {
        Grid grid = new Grid();
        grid.costs(0, 0);
        grid.pixel(0, 0, 1, 1);
        grid.program(0, 1, 2, 10);
        check.due("heat of the first tick", grid.tick(1), 10 * 4 - 10 * 1);
        check.due("work of it", grid.spent(false), 40);
        check.due("it turned", grid.told(0, 0, 0), 1);
        grid.program(0, 4, 0, 20);
        check.due("heat of three", grid.tick(3), 10 * 1 + 20 * 4 - 20 * 1);
        check.due("work of both drives", grid.spent(false), 40 + 80);
        check.due("a tick tells its own heat", grid.tick(1), 20);
        check.due("all heat", grid.spent(true), 120);
    }

    /** "Then each pixel notes its grey." */
    private static void notesComeLast() {
        Grid grid = new Grid();
        grid.costs(0, 0);
        grid.pixel(0, 0, 1, 1);
        grid.program(0, 1, 2, 10);
        grid.tick(1);
        check.due("one note", grid.ofPixel(0, 1), 0);
        grid.tick(1);
        check.due("what it turned to was noted", grid.ofPixel(0, 1), 55 - 17);
        grid.tick(1);
        check.due("it rests", grid.ofPixel(0, 1), 38);
    }

    private static void asTickByTick() {
        Grid one = Grids.busy();
        Grid other = Grids.busy();
        int heat = 0;
        for (int i = 0; i < 20; i++) {
            heat += one.tick(1);
        }
        check.due("heat of twenty", other.tick(20), heat);
        check.due("now", other.now(), one.now());
        check.due("energy", other.energy(), one.energy());
        check.due("work", other.spent(false), one.spent(false));
        check.due("flicker", other.ofPixel(0, 1), one.ofPixel(0, 1));
        for (int y = 0; y < 4; y++) {
            for (int x = 0; x < 5; x++) {
                check.due("direction of " + x + ", " + y, other.told(x, y, 0), one.told(x, y, 0));
            }
        }
    }

    public static void main(String[] args) {
        ticks();
        above2000();
        theLastTicks();
        theFirstException();
        heat();
        drives();
        theLaterToldComesLast();
        drivesOfEachTickOfACall();
        drivesComeFirst();
        notesComeLast();
        asTickByTick();
        check.end();
    }
}
