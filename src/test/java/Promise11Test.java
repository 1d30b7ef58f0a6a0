/** Promise 11, picture: "Takes a picture." */
public final class Promise11Test {
    private static final Check check = new Check("Promise11Test");

    /** "Pictures are numbered from 0, at most 10"; "@throws IllegalStateException if there are 10" */
    private static void ten() {
        Grid grid = new Grid();
        for (int picture = 0; picture < 10; picture++) {
            grid.turn(1, 1, picture);
            check.due("picture " + picture, grid.picture(), picture);
        }
        grid.turn(2, 2, 3);
        check.state(grid, "an eleventh one", () -> grid.picture());
        check.state(grid, "an eleventh one again", () -> grid.picture());
        int[] greys = {0, 17, 55, 90, 99, 75, 35, 4, 4, 35};
        for (int picture = 0; picture < 10; picture++) {
            check.due("what " + picture + " keeps", grid.pictured(picture, 1, 1), greys[picture]);
            check.due("what " + picture + " keeps of another cell", grid.pictured(picture, 2, 2), 0);
        }
        check.outside(grid, "picture 10", () -> grid.ghosts(10));
    }

    /** "a picture keeps the plates and the greys of all cells" */
    private static void keeps() {
        Grid grid = new Grid();
        grid.turn(0, 0, 2);
        grid.turn(3, 3, 9);
        grid.plates(1);
        grid.picture();
        grid.turn(0, 0, 8);
        grid.turn(3, 3, 1);
        grid.plates(4);
        grid.tick(1);
        for (int i = 0; i < 16; i++) {
            int due = i == 0 ? 17 : i == 15 ? 4 : 17;
            check.due("grey " + i, grid.pictured(0, i % 4, i / 4), due);
        }
    }

    private static void allCellsOfTheGreatest() {
        Grid grid = new Grid();
        grid.grid(12, 12);
        for (int at = 0; at < 12; at++) {
            grid.turn(at, 11 - at, at);
            grid.turn(at, at, at % 4);
        }
        int[] greys = {0, 17, 55, 90, 99, 75, 35, 4, 4, 35, 75, 99};
        for (int i = 0; i < 10; i++) {
            grid.picture();
        }
        for (int picture = 0; picture < 10; picture += 9) {
            for (int y = 0; y < 12; y++) {
                for (int x = 0; x < 12; x++) {
                    int due = x == y ? greys[x % 4] : x + y == 11 ? greys[x] : 0;
                    check.due("grey of " + x + ", " + y + " in " + picture, grid.pictured(picture, x, y), due);
                }
            }
        }
    }

    private static void changesNothingElse() {
        Grid grid = Grids.busy();
        int energy = grid.energy();
        check.due("the third one", grid.picture(), 2);
        check.due("energy", grid.energy(), energy);
        check.due("tick", grid.now(), 2);
        check.due("flicker is noted by ticks alone", grid.ofPixel(0, 1), Grids.busy().ofPixel(0, 1));
    }

    public static void main(String[] args) {
        ten();
        keeps();
        allCellsOfTheGreatest();
        changesNothingElse();
        check.end();
    }
}
