/** Promise 17, least: "Returns the least energy that a cell could have ... together with that of another one". */
public final class Promise17Test {
    private static final Check check = new Check("Promise17Test");
    private static final int FREE = NemaGrid.FREE, FIXED = NemaGrid.FIXED, WEAK = NemaGrid.WEAK;

    /** "@throws IndexOutOfBoundsException if there is no such cell, of either" */
    private static void cells() {
        Grid grid = new Grid();
        grid.grid(3, 5);
        grid.anchor(2, 4, FIXED, 7, 1);
        check.due("the last pair across", grid.least(1, 4, true) > 0 ? 1 : 0, 1);
        check.due("the last pair down", grid.least(2, 3, false) > 0 ? 1 : 0, 1);
        check.due("the first pair across", grid.least(0, 0, true), 0);
        check.due("the first pair down", grid.least(0, 0, false), 0);
        check.due("below in the last column", grid.least(2, 0, false), 0);
        check.due("right in the last row", grid.least(0, 4, true) > 0 ? 1 : 0, 1);
        check.outside(grid, "none at the right", () -> grid.least(2, 0, true));
        check.outside(grid, "none at the right of the last one", () -> grid.least(2, 4, true));
        check.outside(grid, "none below", () -> grid.least(0, 4, false));
        check.outside(grid, "none below the last one", () -> grid.least(2, 4, false));
        for (int x : Check.beyond(0, 2)) {
            check.outside(grid, "x " + x + ", right", () -> grid.least(x, 0, true));
            check.outside(grid, "x " + x + ", below", () -> grid.least(x, 0, false));
        }
        for (int y : Check.beyond(0, 4)) {
            check.outside(grid, "y " + y + ", right", () -> grid.least(0, y, true));
            check.outside(grid, "y " + y + ", below", () -> grid.least(0, y, false));
        }
    }

    private static void cellsOfTheGreatestAndTheSmallest() {
        Grid great = new Grid();
        great.grid(12, 12);
        check.due("the last pair of 12 by 12, across", great.least(10, 11, true), 0);
        check.due("the last pair of 12 by 12, down", great.least(11, 10, false), 0);
        check.outside(great, "behind it, across", () -> great.least(11, 11, true));
        check.outside(great, "behind it, down", () -> great.least(11, 11, false));
        Grid small = new Grid();
        small.grid(2, 2);
        check.due("a pair of 2 by 2, across", small.least(0, 1, true), 0);
        check.due("a pair of 2 by 2, down", small.least(1, 0, false), 0);
        check.outside(small, "none across", () -> small.least(1, 0, true));
        check.outside(small, "none down", () -> small.least(0, 1, false));
    }

    /** "if both took any directions, FIXED ones their own" */
    private static void fixed() {
        Grid grid = new Grid();
        grid.grid(2, 2);
        grid.anchor(0, 0, FIXED, 5, 1);
        check.due("FIXED first", grid.least(0, 0, true), 25 + 9 + 4);
        check.due("FIXED above", grid.least(0, 0, false), 38);
        check.due("both free", grid.least(0, 1, true), 9);
        check.due("both free, at the right", grid.least(1, 0, false), 9);
        grid.costs(2, 1);
        check.due("dear across", grid.least(0, 0, true), 25 + 17);
        check.due("dear across, below", grid.least(0, 0, false), 50 + 17);
        grid.anchor(0, 1, FIXED, 9, 1);
        check.due("both FIXED", grid.least(0, 0, false), 2 * 25 + 2 * 36 + 16);
        grid.anchor(1, 0, FIXED, 1, 1);
        check.due("a FIXED second", grid.least(1, 0, false), 2 * 16 + 8 + 25);
        check.due("both FIXED across", grid.least(0, 0, true), 2 * 16 + 16 + 1);
        grid.anchor(0, 1, FREE, 0, 1);
        check.due("a freed one takes any", grid.least(0, 0, false), 2 * 16 + 9 + 8);
    }

    private static void weak() {
        Grid grid = new Grid();
        grid.grid(2, 2);
        grid.anchor(0, 0, WEAK, 7, 100);
        check.due("a WEAK one is held", grid.least(0, 0, true), 49 + 9 + 16);
        check.due("what it has now", grid.energy(), 4900);
        check.due("the question turns nothing", grid.told(0, 0, 0), 0);
        grid.anchor(1, 0, WEAK, 7, 100);
        check.due("two held alike", grid.least(0, 0, true), 49 + 49);
        grid.anchor(1, 0, WEAK, 7, 1);
        grid.anchor(0, 0, WEAK, 1, 1);
        grid.costs(0, 0);
        check.due("each as it is held", grid.least(0, 0, true), 0);
    }

    private static void fields() {
        Grid grid = new Grid();
        grid.grid(2, 2);
        grid.pixel(0, 0, 2, 1);
        grid.drive(0, 7, 100);
        check.due("both in a field", grid.least(0, 0, true), 98);
        check.due("one in a field", grid.least(0, 0, false), 49 + 9 + 16);
        grid.anchor(0, 0, FIXED, 6, 1);
        check.due("a FIXED one in a field", grid.least(0, 0, true), 100 + 36 + 1 + 49);
    }

    /** "what both share counted once" */
    private static void sharedOnce() {
        Grid grid = new Grid();
        grid.grid(2, 2);
        grid.costs(3, 0);
        grid.anchor(0, 0, FIXED, 0, 1);
        grid.anchor(1, 0, FIXED, 5, 1);
        check.due("across", grid.least(0, 0, true), 75);
        grid.costs(0, 4);
        grid.anchor(0, 1, FIXED, 2, 1);
        check.due("down", grid.least(0, 0, false), 16);
    }

    private static void eachDirection() {
        for (int direction = 0; direction < 15; direction++) {
            Grid grid = new Grid();
            for (int i = 0; i < 16; i++) {
                grid.anchor(i % 4, i / 4, FIXED, direction, 1);
                grid.anchor(i % 4, i / 4, WEAK, direction, 100);
            }
            grid.turn(1, 1, (direction + 7) % 15);
            grid.turn(2, 1, (direction + 8) % 15);
            check.due("both could be " + direction, grid.least(1, 1, true), 0);
            grid.turn(2, 1, direction);
            grid.turn(1, 2, (direction + 5) % 15);
            check.due("both could be " + direction + ", below", grid.least(1, 1, false), 0);
        }
    }

    private static void overTheEnd() {
        Grid grid = new Grid();
        grid.grid(2, 2);
        grid.anchor(0, 1, FIXED, 14, 1);
        grid.anchor(1, 1, FIXED, 1, 1);
        check.due("both are best at the end", grid.least(0, 0, true), 2);
        grid.turn(0, 0, 7);
        grid.turn(1, 0, 8);
        check.due("wherever they are", grid.least(0, 0, true), 2);
    }

    private static void noMoreThanNow() {
        Grid grid = Grids.busy();
        for (int y = 0; y < 4; y++) {
            for (int x = 0; x < 4; x++) {
                int both = grid.told(x, y, 4) + grid.told(x + 1, y, 4);
                check.due("no more than both have now", grid.least(x, y, true) <= both ? 1 : 0, 1);
            }
        }
    }

    /** Two FIXED ones, seven apart from all that they touch but each other. */
    private static void theMost() {
        for (int turned = 0; turned < 2; turned++) {
            boolean right = turned == 0;
            Grid grid = new Grid();
            grid.costs(20, 20);
            grid.anchor(1, 1, FIXED, 7, 1);
            grid.anchor(right ? 2 : 1, right ? 1 : 2, FIXED, 8, 1);
            grid.pixel(1, 1, right ? 2 : 1, right ? 1 : 2);
            grid.drive(0, 0, 100);
            check.due("the most, " + (right ? "right" : "below"), grid.least(1, 1, right),
                    2 * 4900 + 20 + 6 * 20 * 49);
        }
    }

    public static void main(String[] args) {
        cells();
        cellsOfTheGreatestAndTheSmallest();
        fixed();
        weak();
        fields();
        theMost();
        sharedOnce();
        eachDirection();
        overTheEnd();
        noMoreThanNow();
        check.end();
    }
}
