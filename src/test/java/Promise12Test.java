/** Promise 12, now: "Returns the tick." */
public final class Promise12Test {
    private static final Check check = new Check("Promise12Test");

    private static void fromZeroToTheLast() {
        Grid grid = new Grid();
        check.due("at first", grid.now(), 0);
        grid.tick(1);
        check.due("the first tick", grid.now(), 1);
        grid.tick(49);
        check.due("50", grid.now(), 50);
        for (int i = 1; i < 40; i++) {
            grid.tick(50);
            check.due("ticks", grid.now(), 50 + 50 * i);
        }
        check.due("the last tick", grid.now(), 2000);
        check.state(grid, "one more", () -> grid.tick(1));
        check.due("still", grid.now(), 2000);
        grid.grid(4, 4);
        check.due("anew", grid.now(), 0);
    }

    private static void nothingElseCounts() {
        Grid grid = Grids.busy();
        check.due("ticks alone", grid.now(), 2);
        check.argument(grid, "no tick", () -> grid.tick(0));
        check.due("a refused one", grid.now(), 2);
    }

    public static void main(String[] args) {
        fromZeroToTheLast();
        nothingElseCounts();
        check.end();
    }
}
