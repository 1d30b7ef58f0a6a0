/** Promise 10, plates: "Turns the plates." */
public final class Promise10Test {
    private static final Check check = new Check("Promise10Test");

    /** "@param direction 0 to 14" */
    private static void direction() {
        Grid grid = Grids.busy();
        for (int direction : Check.beyond(0, 14)) {
            check.argument(grid, "plates(" + direction + ")", () -> grid.plates(direction));
        }
        check.due("they stayed", grid.plates(0), 3);
        check.due("the first value", grid.plates(14), 0);
        check.due("the last value", grid.plates(14), 14);
        for (int direction : Check.beyond(0, 14)) {
            check.argument(grid, "plates(" + direction + ") from 14", () -> grid.plates(direction));
        }
    }

    /** "@return the direction before" */
    private static void before() {
        Grid grid = new Grid();
        int before = 0;
        for (int direction = 14; direction >= 0; direction--) {
            check.due("plates(" + direction + ")", grid.plates(direction), before);
            check.due("the same again", grid.plates(direction), direction);
            before = direction;
        }
    }

    private static void noEnergy() {
        Grid grid = Grids.busy();
        int energy = grid.energy();
        int work = grid.spent(false);
        int heat = grid.spent(true);
        grid.plates(9);
        check.due("energy", grid.energy(), energy);
        check.due("energy anew", grid.energyAnew(), energy);
        check.due("work", grid.spent(false), work);
        check.due("heat", grid.spent(true), heat);
        check.due("directions", grid.told(2, 3, 0), 11);
    }

    private static void ticksLeaveThem() {
        Grid grid = new Grid();
        grid.plates(6);
        grid.tick(50);
        grid.picture();
        check.due("after ticks", grid.plates(6), 6);
    }

    public static void main(String[] args) {
        direction();
        before();
        noEnergy();
        ticksLeaveThem();
        check.end();
    }
}
