/** Promise 23, ofPixel: "Tells of a pixel." */
public final class Promise23Test {
    private static final Check check = new Check("Promise23Test");

    /** "@throws IndexOutOfBoundsException if there is no such pixel" */
    private static void pixel() {
        Grid none = new Grid();
        check.outside(none, "without pixels", () -> none.ofPixel(0, 0));
        Grid grid = Grids.busy();
        for (int what = 0; what <= 4; what++) {
            int which = what;
            for (int pixel : Check.beyond(0, 1)) {
                check.outside(grid, "pixel " + pixel + ", " + what, () -> grid.ofPixel(pixel, which));
            }
        }
        check.outside(grid, "pixel 7", () -> grid.ofPixel(7, 0));
        check.outside(grid, "pixel 8", () -> grid.ofPixel(8, 0));
        check.due("the last pixel", grid.ofPixel(1, 4), 50);
        Grid eight = new Grid();
        for (int i = 0; i < 8; i++) {
            eight.pixel(i % 4, i / 4, 1, 1);
        }
        eight.drive(7, 14, 100);
        check.due("the last one of eight", eight.ofPixel(7, 4), 100);
        check.outside(eight, "none behind it", () -> eight.ofPixel(8, 4));
    }

    /** "@throws IllegalArgumentException if what is out of its range" */
    private static void what() {
        Grid grid = Grids.busy();
        for (int what : Check.beyond(0, 4)) {
            check.argument(grid, "what " + what, () -> grid.ofPixel(0, what));
            check.argument(grid, "what " + what + " of the last one", () -> grid.ofPixel(1, what));
            check.outside(grid, "no pixel, what " + what, () -> grid.ofPixel(2, what));
            check.outside(grid, "pixel -1, what " + what, () -> grid.ofPixel(-1, what));
        }
    }

    /** "The grey of a pixel is the mean of those of its cells." "Divisions are rounded down." */
    private static void grey() {
        Grid grid = new Grid();
        grid.pixel(0, 0, 3, 1);
        check.due("dark", grid.ofPixel(0, 0), 0);
        grid.turn(0, 0, 1);
        check.due("17 by three", grid.ofPixel(0, 0), 5);
        grid.turn(1, 0, 13);
        check.due("72 by three", grid.ofPixel(0, 0), 24);
        grid.turn(2, 0, 2);
        check.due("127 by three", grid.ofPixel(0, 0), 42);
        grid.turn(2, 0, 4);
        check.due("171 by three", grid.ofPixel(0, 0), 57);
        grid.turn(3, 0, 3);
        grid.turn(0, 1, 3);
        check.due("its own cells alone", grid.ofPixel(0, 0), 57);
        grid.plates(4);
        check.due("by the plates: 125 by three", grid.ofPixel(0, 0), 41);
        check.due("not noted", grid.ofPixel(0, 1), 0);
    }

    private static void greyOfOneAndOfAll() {
        Grid one = new Grid();
        one.turn(3, 3, 4);
        one.pixel(3, 3, 1, 1);
        check.due("of one", one.ofPixel(0, 0), 99);
        Grid all = new Grid();
        all.grid(12, 12);
        all.pixel(0, 0, 12, 12);
        all.turn(11, 11, 4);
        check.due("99 by 144", all.ofPixel(0, 0), 0);
        all.turn(0, 0, 3);
        check.due("189 by 144", all.ofPixel(0, 0), 1);
        all.plates(4);
        check.due("142 of 99, and 0, and 17, by 144", all.ofPixel(0, 0), (142 * 99 + 17) / 144);
    }

    private static void oneLessThanWhole() {
        // 17 + 17 + 17 + 17 + 55 + 55 + 55 + 55 + 35 = 323, one less than 9 times 36
        Grid grid = Grids.of(new int[] {1, 2, 1}, new int[] {2, 6, 2}, new int[] {1, 2, 1});
        grid.pixel(0, 0, 3, 3);
        check.due("323 by nine", grid.ofPixel(0, 0), 35);
    }

    /** "3 the direction of its field, 4 the strength of that" */
    private static void field() {
        Grid grid = new Grid();
        grid.pixel(0, 0, 1, 1);
        grid.pixel(1, 0, 1, 1);
        check.due("direction at first", grid.ofPixel(1, 3), 0);
        check.due("strength at first", grid.ofPixel(1, 4), 0);
        grid.drive(1, 14, 100);
        check.due("direction", grid.ofPixel(1, 3), 14);
        check.due("strength", grid.ofPixel(1, 4), 100);
        check.due("direction of the other", grid.ofPixel(0, 3), 0);
        check.due("strength of the other", grid.ofPixel(0, 4), 0);
        grid.program(1, 1, 3, 7);
        check.due("direction before it comes", grid.ofPixel(1, 3), 14);
        grid.tick(1);
        check.due("direction that came", grid.ofPixel(1, 3), 3);
        check.due("strength that came", grid.ofPixel(1, 4), 7);
    }

    private static int goods(Grid grid) {
        int goods = 0;
        for (int pixel = 0; pixel < 6; pixel++) {
            goods |= grid.ofPixel(pixel, 2) << pixel;
        }
        return goods;
    }

    /** "A pixel is good, if no place is a defect that has a cell of it." */
    private static void good() {
        Grid grid = new Grid();
        grid.pixel(0, 0, 1, 1);
        grid.pixel(1, 0, 1, 1);
        grid.pixel(0, 3, 4, 1);
        grid.pixel(1, 2, 1, 1);
        grid.pixel(3, 0, 1, 3);
        grid.pixel(2, 1, 1, 1);
        check.due("all are good at first", goods(grid), 0b111111);
        grid.turn(1, 1, 3);
        grid.turn(2, 1, 7);
        grid.turn(2, 2, 11);
        check.due("the defect", grid.winding(1, 1), 1);
        check.due("the one beside it", grid.winding(2, 1), -1);
        check.due("there are no others", grid.defects(), 2);
        check.due("those with a cell of it are not", goods(grid), 0b000111);
    }

    /** Four quarters of one direction each, with a defect in their middle alone. */
    private static Grid quarters(int middleX, int middleY) {
        Grid grid = new Grid();
        for (int i = 0; i < 16; i++) {
            int top = i % 4 <= middleX ? 1 : 5;
            int bottom = i % 4 <= middleX ? 13 : 9;
            grid.turn(i % 4, i / 4, i / 4 <= middleY ? top : bottom);
        }
        return grid;
    }

    private static void goodRoundEachPlace() {
        for (int middle = 0; middle < 9; middle++) {
            int middleX = middle % 3;
            int middleY = middle / 3;
            Grid grid = quarters(middleX, middleY);
            check.due("the winding in the middle", grid.winding(middleX, middleY), 1);
            check.due("the only defect", grid.defects(), 1);
            for (int at = 0; at < 16; at++) {
                int x = at % 4;
                int y = at / 4;
                if (at == 8) {
                    grid = quarters(middleX, middleY);
                }
                int pixel = grid.pixel(x, y, 1, 1);
                boolean isIn = x - middleX >= 0 && x - middleX <= 1 && y - middleY >= 0 && y - middleY <= 1;
                check.due("good at " + x + ", " + y, grid.ofPixel(pixel, 2), isIn ? 0 : 1);
            }
        }
    }

    private static void goodWithOneCellOrAll() {
        Grid all = quarters(1, 1);
        all.pixel(0, 0, 4, 4);
        check.due("all cells", all.ofPixel(0, 2), 0);
        Grid beside = quarters(1, 1);
        beside.pixel(3, 0, 1, 4);
        beside.pixel(0, 0, 3, 1);
        beside.pixel(0, 1, 2, 1);
        check.due("beside the defect", beside.ofPixel(0, 2), 1);
        check.due("above the defect", beside.ofPixel(1, 2), 1);
        check.due("with its last cell in the defect", beside.ofPixel(2, 2), 0);
    }

    private static void goodAtTheEdges() {
        for (int side = 2; side <= 12; side++) {
            Grid grid = Grids.withoutDefects(side, side);
            grid.pixel(0, 0, side, side);
            check.due("good to the edges of " + side, grid.ofPixel(0, 2), 1);
        }
        for (int[] size : Grids.longSizes()) {
            Grid grid = Grids.withoutDefects(size[0], size[1]);
            grid.pixel(0, 0, size[0], size[1]);
            check.due("good to the edges of " + size[0] + " by " + size[1], grid.ofPixel(0, 2), 1);
        }
    }

    private static void notGoodInTheCorners() {
        for (int[] size : Grids.longSizes()) {
            for (int corner = 0; corner < 4; corner++) {
                int x = corner % 2 * (size[0] - 1);
                int y = corner / 2 * (size[1] - 1);
                Grid grid = Grids.fullOfDefects(size[0], size[1]);
                grid.pixel(x, y, 1, 1);
                check.due("not good at " + x + ", " + y + " of " + size[0] + " by " + size[1], grid.ofPixel(0, 2), 0);
            }
        }
    }

    /** Defects and greys go by directions alone, whatever these cost. */
    private static void withoutEnergy() {
        Grid grid = Grids.checkered();
        grid.costs(0, 0);
        grid.pixel(0, 0, 1, 1);
        grid.pixel(0, 3, 4, 1);
        check.due("no energy", grid.energy(), 0);
        check.due("not good", grid.ofPixel(0, 2), 0);
        check.due("good", grid.ofPixel(1, 2), 1);
        check.due("defects", grid.defects(), 6);
        check.due("winding", grid.winding(1, 0), -1);
        check.due("grey", grid.ofPixel(1, 0), (99 + 99) / 4);
    }

    public static void main(String[] args) {
        pixel();
        what();
        grey();
        greyOfOneAndOfAll();
        oneLessThanWhole();
        field();
        good();
        goodRoundEachPlace();
        goodWithOneCellOrAll();
        withoutEnergy();
        goodAtTheEdges();
        notGoodInTheCorners();
        check.end();
    }
}
