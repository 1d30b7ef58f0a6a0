/** Promises 24 to 26, pictured, ghosts and guesses: what pictures tell. */
public final class Promise24Test {
    private static final Check check = new Check("Promise24Test");

    private static void dueNoPicture(Grid grid, int picture) {
        check.outside(grid, "pictured of " + picture, () -> grid.pictured(picture, 0, 0));
        check.outside(grid, "ghosts of " + picture, () -> grid.ghosts(picture));
        check.outside(grid, "guesses of " + picture, () -> grid.guesses(picture, 0, 0));
    }

    /** "@throws IndexOutOfBoundsException if there is no such picture" */
    private static void pictures() {
        Grid none = new Grid();
        for (int picture : new int[] {Integer.MIN_VALUE, -1, 0, 1, 9, 10, Integer.MAX_VALUE}) {
            dueNoPicture(none, picture);
        }
        Grid two = Grids.busy();
        for (int picture : Check.beyond(0, 1)) {
            dueNoPicture(two, picture);
        }
        check.due("the first one", two.ghosts(0) >= 0 ? 1 : 0, 1);
        check.due("the last one", two.ghosts(1), 0);
        Grid ten = new Grid();
        for (int picture = 0; picture < 10; picture++) {
            int next = picture;
            check.outside(ten, "not yet " + next, () -> ten.ghosts(next));
            ten.picture();
            check.due("now " + next, ten.ghosts(next), 0);
        }
        for (int picture : Check.beyond(0, 9)) {
            dueNoPicture(ten, picture);
        }
        check.due("the last of ten", ten.pictured(9, 3, 3), 0);
        check.due("the last of ten ghosts", ten.ghosts(9), 0);
        check.due("the last of ten has guesses", ten.guesses(9, 3, 3), 1);
    }

    /** "if there is no such picture or cell" */
    private static void cells() {
        Grid grid = new Grid();
        grid.grid(3, 5);
        grid.turn(2, 4, 1);
        grid.turn(2, 0, 2);
        grid.turn(0, 4, 3);
        grid.picture();
        check.due("the first cell", grid.pictured(0, 0, 0), 0);
        check.due("the last cell", grid.pictured(0, 2, 4), 17);
        check.due("the last cell across", grid.pictured(0, 2, 0), 55);
        check.due("the last cell down", grid.pictured(0, 0, 4), 90);
        check.due("guesses of the first cell", grid.guesses(0, 0, 0), 1);
        check.due("guesses of the last cell", grid.guesses(0, 2, 4), 2);
        for (int x : Check.beyond(0, 2)) {
            check.outside(grid, "pictured x " + x, () -> grid.pictured(0, x, 4));
            check.outside(grid, "guesses x " + x, () -> grid.guesses(0, x, 4));
            check.outside(grid, "pictured x " + x + " of no picture", () -> grid.pictured(1, x, 4));
        }
        for (int y : Check.beyond(0, 4)) {
            check.outside(grid, "pictured y " + y, () -> grid.pictured(0, 2, y));
            check.outside(grid, "guesses y " + y, () -> grid.guesses(0, 2, y));
            check.outside(grid, "guesses y " + y + " of no picture", () -> grid.guesses(-1, 2, y));
        }
    }

    private static void cellsOfTheGreatest() {
        Grid grid = new Grid();
        grid.grid(12, 12);
        grid.turn(11, 11, 9);
        grid.plates(9);
        grid.picture();
        check.due("the last cell", grid.pictured(0, 11, 11), 0);
        check.due("the one before it", grid.pictured(0, 10, 11), 35);
        check.due("the one above it", grid.pictured(0, 11, 10), 35);
        check.outside(grid, "x 12", () -> grid.pictured(0, 12, 11));
        check.outside(grid, "y 12", () -> grid.guesses(0, 11, 12));
    }

    /** "It ghosts by how many cells have another grey now, by its plates." */
    private static void ghosts() {
        Grid grid = new Grid();
        grid.turn(0, 0, 2);
        grid.plates(1);
        grid.picture();
        check.due("none at once", grid.ghosts(0), 0);
        grid.turn(3, 3, 8);
        check.due("one", grid.ghosts(0), 1);
        grid.plates(4);
        check.due("the plates now do not matter", grid.ghosts(0), 1);
        check.due("the second one", grid.picture(), 1);
        grid.turn(0, 0, 4);
        check.due("both", grid.ghosts(0), 2);
        check.due("the second one by one", grid.ghosts(1), 1);
        grid.turn(0, 0, 0);
        check.due("as far on the other side", grid.ghosts(0), 1);
        check.due("not so for the second one", grid.ghosts(1), 1);
        grid.turn(0, 0, 6);
        check.due("as far on the other side of the second one's", grid.ghosts(1), 0);
        check.due("not so for the first one", grid.ghosts(0), 2);
    }

    private static void ghostsOfNoneAndOfAll() {
        dueGhostsOfEach(12, 12);
        for (int[] size : Grids.longSizes()) {
            dueGhostsOfEach(size[0], size[1]);
        }
    }

    private static void dueGhostsOfEach(int width, int height) {
        String name = " of " + width + " by " + height;
        Grid grid = new Grid();
        grid.grid(width, height);
        grid.picture();
        for (int i = 0; i < width * height; i++) {
            check.due("ghosts before " + i + name, grid.ghosts(0), i);
            grid.turn(i % width, i / width, 1 + i % 14);
        }
        check.due("all" + name, grid.ghosts(0), width * height);
        check.due("another picture" + name, grid.picture(), 1);
        check.due("it ghosts by none" + name, grid.ghosts(1), 0);
        check.due("the grey of the last cell" + name, grid.pictured(1, width - 1, height - 1),
                grid.told(width - 1, height - 1, 3));
    }

    private static void ghostsByTicks() {
        Grid grid = new Grid();
        grid.turn(1, 1, 1);
        grid.picture();
        grid.tick(1);
        check.due("what relaxed", grid.ghosts(0), 1);
        check.due("the picture keeps", grid.pictured(0, 1, 1), 17);
    }

    /** "Counts the directions that a cell could have by its grey in a picture alone, whatever holds it." */
    private static void guesses() {
        for (int plates = 0; plates < 15; plates++) {
            Grid grid = new Grid();
            grid.grid(5, 3);
            grid.plates(plates);
            for (int direction = 0; direction < 15; direction++) {
                grid.turn(direction % 5, direction / 5, direction);
            }
            grid.picture();
            grid.plates((plates + 5) % 15);
            for (int direction = 0; direction < 15; direction++) {
                check.due("guesses of " + direction + " by " + plates,
                        grid.guesses(0, direction % 5, direction / 5), direction == plates ? 1 : 2);
            }
        }
    }

    private static void guessesByThePictureAlone() {
        Grid grid = new Grid();
        grid.plates(3);
        grid.anchor(0, 0, NemaGrid.FIXED, 3, 1);
        grid.anchor(1, 0, NemaGrid.FIXED, 4, 1);
        grid.anchor(2, 0, NemaGrid.WEAK, 3, 100);
        grid.picture();
        check.due("FIXED at the plates", grid.guesses(0, 0, 0), 1);
        check.due("FIXED beside them", grid.guesses(0, 1, 0), 2);
        check.due("WEAK", grid.guesses(0, 2, 0), 2);
        grid.anchor(0, 0, NemaGrid.FIXED, 9, 1);
        grid.anchor(1, 0, NemaGrid.FIXED, 3, 1);
        check.due("turned since", grid.guesses(0, 0, 0), 1);
        check.due("turned to the plates since", grid.guesses(0, 1, 0), 2);
    }

    private static void picturesOfAGridBefore() {
        Grid grid = new Grid();
        grid.turn(0, 0, 4);
        grid.picture();
        grid.picture();
        grid.grid(4, 4);
        dueNoPicture(grid, 0);
        dueNoPicture(grid, 1);
        check.due("the first one anew", grid.picture(), 0);
        check.due("its grey", grid.pictured(0, 0, 0), 0);
        dueNoPicture(grid, 1);
    }

    /** "a picture keeps the plates": each of ten its own */
    private static void tenPlates() {
        int[] greys = {0, 17, 55, 90, 99, 75, 35, 4, 4, 35, 75, 99, 90, 55, 17};
        Grid grid = new Grid();
        for (int picture = 0; picture < 10; picture++) {
            grid.plates(picture + 1);
            check.due("picture", grid.picture(), picture);
        }
        grid.plates(14);
        for (int picture = 0; picture < 10; picture++) {
            check.due("grey of picture " + picture, grid.pictured(picture, 3, 3), greys[picture + 1]);
            check.due("guesses of picture " + picture, grid.guesses(picture, 3, 3), 2);
            check.due("ghosts of picture " + picture, grid.ghosts(picture), 0);
        }
        for (int picture = 0; picture < 10; picture++) {
            grid.turn(3, 3, 2 * (picture + 1) % 15);
            for (int other = 0; other < 10; other++) {
                check.due("ghosts of " + other + ", the cell is on the other side of the plates of " + picture,
                        grid.ghosts(other), other == picture ? 0 : 1);
            }
        }
    }

    public static void main(String[] args) {
        pictures();
        cells();
        cellsOfTheGreatest();
        ghosts();
        ghostsOfNoneAndOfAll();
        ghostsByTicks();
        tenPlates();
        guesses();
        guessesByThePictureAlone();
        picturesOfAGridBefore();
        check.end();
    }
}
