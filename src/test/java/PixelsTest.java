/** Promises 6 to 8 and 23: pixel, drive, program, ofPixel. */
public final class PixelsTest {
    private static final Check check = new Check("PixelsTest");
    private static final int[] NO_DIRECTIONS = {Integer.MIN_VALUE, -1, 15, Integer.MAX_VALUE};
    private static final int[] NO_STRENGTHS = {Integer.MIN_VALUE, -1, 101, Integer.MAX_VALUE};

    private static void pixel() {
        NemaGrid grid = new NemaGrid();
        check.due("the first one", grid.pixel(0, 0, 2, 1), 0);
        check.due("it holds its first cell", grid.told(0, 0, 2), 0);
        check.due("it holds its last cell", grid.told(1, 0, 2), 0);
        check.due("it ends at the right", grid.told(2, 0, 2), NemaGrid.NONE);
        check.due("it ends below", grid.told(0, 1, 2), NemaGrid.NONE);
        check.due("a high one", grid.pixel(3, 0, 1, 4), 1);
        check.due("its last cell", grid.told(3, 3, 2), 1);
        check.state(grid, "the same again", () -> grid.pixel(0, 0, 2, 1));
        check.state(grid, "one with a cell of another", () -> grid.pixel(2, 3, 2, 1));
        check.state(grid, "one round another", () -> grid.pixel(0, 0, 4, 4));
        check.due("one beside them", grid.pixel(0, 1, 3, 3), 2);
        check.due("a new field, its direction", grid.ofPixel(2, 3), 0);
        check.due("a new field, its strength", grid.ofPixel(2, 4), 0);
        check.due("no work", grid.spent(false), 0);
        grid.grid(12, 12);
        check.due("the greatest", grid.pixel(0, 0, 12, 12), 0);
        check.due("its last cell", grid.told(11, 11, 2), 0);
    }

    private static void eightPixels() {
        NemaGrid grid = new NemaGrid();
        for (int i = 0; i < 8; i++) {
            check.due("pixel " + i, grid.pixel(i % 4, i / 4, 1, 1), i);
        }
        check.state(grid, "a ninth one", () -> grid.pixel(0, 2, 1, 1));
        check.state(grid, "a ninth one upon another", () -> grid.pixel(0, 0, 1, 1));
        check.argument(grid, "a ninth one, too large", () -> grid.pixel(0, 2, 13, 1));
        check.argument(grid, "a ninth one, too far", () -> grid.pixel(3, 2, 2, 1));
        check.outside(grid, "a ninth one, outside", () -> grid.pixel(0, 4, 1, 1));
    }

    private static void pixelWrongly() {
        NemaGrid grid = new NemaGrid();
        for (int side : new int[] {Integer.MIN_VALUE, -1, 0, 5, 13, Integer.MAX_VALUE}) {
            check.argument(grid, "width " + side, () -> grid.pixel(0, 0, side, 1));
            check.argument(grid, "height " + side, () -> grid.pixel(0, 0, 1, side));
            check.outside(grid, "outside, width " + side, () -> grid.pixel(4, 0, side, side));
        }
        for (int at : new int[] {Integer.MIN_VALUE, -1, 4, 12, Integer.MAX_VALUE}) {
            check.outside(grid, "pixel x " + at, () -> grid.pixel(at, 0, 1, 1));
            check.outside(grid, "pixel y " + at, () -> grid.pixel(0, at, 1, 1));
        }
        check.argument(grid, "no width behind a cell", () -> grid.pixel(1, 1, 0, 1));
        check.argument(grid, "no height below a cell", () -> grid.pixel(1, 1, 1, 0));
        check.argument(grid, "a cell too far", () -> grid.pixel(3, 0, 2, 1));
        check.argument(grid, "a cell too low", () -> grid.pixel(0, 2, 1, 3));
        check.due("none was made", grid.pixel(0, 0, 4, 4), 0);
        check.argument(grid, "too far, upon another", () -> grid.pixel(1, 1, 4, 1));
    }

    private static void drive() {
        NemaGrid grid = new NemaGrid();
        grid.pixel(1, 1, 2, 2);
        grid.pixel(0, 0, 1, 1);
        check.due("drive(0, 3, 10)", grid.drive(0, 3, 10), 4 * 10 * 9);
        check.due("its direction", grid.ofPixel(0, 3), 3);
        check.due("its strength", grid.ofPixel(0, 4), 10);
        check.due("the other one's", grid.ofPixel(1, 4), 0);
        check.due("twice as strong", grid.drive(0, 3, 20), 360);
        check.due("turned", grid.drive(0, 14, 20), 80 - 720);
        check.due("the strongest", grid.drive(0, 14, 100), 400 - 80);
        grid.anchor(1, 1, NemaGrid.FIXED, 14, 1);
        check.due("a FIXED cell counts", grid.drive(0, 1, 100), 300 + 400 - 300);
        check.due("anew", grid.energyAnew(), 704);
        check.due("energy", grid.energy(), 704);
        check.due("without a field", grid.drive(0, 1, 0), -700);
        check.due("nothing turned", grid.told(2, 2, 0), 0);
        check.due("the other one", grid.drive(1, 7, 1), 49);
        check.due("work", grid.spent(false), 4 + 49);
        check.due("no heat", grid.spent(true), 0);
        for (int direction : NO_DIRECTIONS) {
            check.argument(grid, "drive to " + direction, () -> grid.drive(0, direction, 5));
        }
        for (int strength : NO_STRENGTHS) {
            check.argument(grid, "drive by " + strength, () -> grid.drive(0, 5, strength));
        }
        for (int pixel : new int[] {Integer.MIN_VALUE, -1, 2, 8, Integer.MAX_VALUE}) {
            check.outside(grid, "drive pixel " + pixel, () -> grid.drive(pixel, 5, 5));
            check.outside(grid, "drive pixel " + pixel + " wrongly", () -> grid.drive(pixel, 15, 101));
        }
    }

    private static void program() {
        NemaGrid grid = new NemaGrid();
        grid.pixel(0, 0, 1, 1);
        grid.pixel(3, 3, 1, 1);
        grid.anchor(0, 0, NemaGrid.FIXED, 0, 1);
        grid.anchor(3, 3, NemaGrid.FIXED, 0, 1);
        check.due("the first one to come", grid.program(0, 3, 2, 10), 1);
        check.due("the second one", grid.program(1, 2, 1, 7), 2);
        check.due("one for the same tick", grid.program(0, 3, 1, 100), 3);
        check.due("one for the last tick", grid.program(0, 2000, 14, 0), 4);
        check.due("nothing is driven yet", grid.ofPixel(0, 4), 0);
        check.due("no heat", grid.tick(1), 0);
        check.due("none came at 1", grid.spent(false), 0);
        grid.tick(1);
        check.due("one came at 2", grid.spent(false), 7);
        check.due("to the other pixel", grid.ofPixel(1, 4), 7);
        check.due("three are left and one", grid.program(1, 4, 0, 0), 4);
        grid.tick(1);
        check.due("both came, the later told last", grid.ofPixel(0, 4), 100);
        check.due("its direction", grid.ofPixel(0, 3), 1);
        check.due("work of both", grid.spent(false), 7 + 100);
        grid.tick(1);
        check.due("the field is gone", grid.spent(false), 100);
        check.due("one is left and one", grid.program(1, 5, 0, 0), 2);
        grid.grid(4, 4);
        grid.pixel(0, 0, 1, 1);
        check.due("none are left", grid.program(0, 1, 14, 100), 1);
        grid.tick(50);
        check.due("the first tick is 1", grid.ofPixel(0, 4), 100);
        check.due("a drive is work", grid.spent(false), 100);
    }

    private static void programWrongly() {
        NemaGrid grid = new NemaGrid();
        grid.pixel(0, 0, 4, 4);
        grid.tick(5);
        for (int tick : new int[] {Integer.MIN_VALUE, -1, 0, 4, 5, 2001, Integer.MAX_VALUE}) {
            check.argument(grid, "tick " + tick, () -> grid.program(0, tick, 0, 0));
        }
        for (int direction : NO_DIRECTIONS) {
            check.argument(grid, "program to " + direction, () -> grid.program(0, 6, direction, 5));
        }
        for (int strength : NO_STRENGTHS) {
            check.argument(grid, "program by " + strength, () -> grid.program(0, 6, 5, strength));
        }
        for (int pixel : new int[] {Integer.MIN_VALUE, -1, 1, 8, Integer.MAX_VALUE}) {
            check.outside(grid, "program pixel " + pixel, () -> grid.program(pixel, 6, 5, 5));
            check.outside(grid, "program pixel " + pixel + " wrongly", () -> grid.program(pixel, 5, 15, 101));
        }
        for (int i = 1; i <= 40; i++) {
            check.due("drive " + i, grid.program(0, i == 7 ? 6 : 2000, 14, 100), i);
        }
        check.state(grid, "drive 41", () -> grid.program(0, 7, 0, 0));
        check.argument(grid, "drive 41 too late", () -> grid.program(0, 2001, 0, 0));
        check.outside(grid, "drive 41 of no pixel", () -> grid.program(1, 7, 0, 0));
        grid.tick(1);
        check.due("one came", grid.program(0, 8, 0, 0), 40);
        check.state(grid, "drive 41 again", () -> grid.program(0, 8, 0, 0));
    }

    private static void grey() {
        NemaGrid grid = new NemaGrid();
        grid.pixel(0, 0, 3, 1);
        check.due("dark", grid.ofPixel(0, 0), 0);
        grid.turn(0, 0, 1);
        check.due("17 by three", grid.ofPixel(0, 0), 5);
        grid.turn(1, 0, 13);
        check.due("72 by three", grid.ofPixel(0, 0), 24);
        grid.turn(2, 0, 4);
        grid.turn(3, 0, 3);
        check.due("171 by three", grid.ofPixel(0, 0), 57);
        grid.plates(4);
        check.due("by the plates", grid.ofPixel(0, 0), (90 + 35 + 0) / 3);
        check.due("not noted", grid.ofPixel(0, 1), 0);
    }

    private static void noteGrey(NemaGrid grid, int plates, int flicker, int later) {
        grid.plates(plates);
        grid.tick(1);
        check.due("flicker at " + grid.now(), grid.ofPixel(0, 1), flicker);
        if (later >= 0) {
            check.due("flicker of the later one at " + grid.now(), grid.ofPixel(1, 1), later);
        }
    }

    private static void flicker() {
        NemaGrid grid = new NemaGrid();
        grid.plates(4);
        grid.tick(3);
        grid.pixel(0, 0, 2, 2);
        check.due("none noted", grid.ofPixel(0, 1), 0);
        noteGrey(grid, 4, 0, -1);
        noteGrey(grid, 1, 82, -1);
        noteGrey(grid, 2, 82, -1);
        grid.pixel(3, 3, 1, 1);
        check.due("none noted by the later one", grid.ofPixel(1, 1), 0);
        noteGrey(grid, 3, 82, 0);
        noteGrey(grid, 2, 82, 35);
        noteGrey(grid, 2, 82, 35);
        noteGrey(grid, 2, 82, 35);
        noteGrey(grid, 2, 82, 35);
        noteGrey(grid, 2, 73, 35);
        noteGrey(grid, 2, 35, 35);
        noteGrey(grid, 2, 35, 35);
        noteGrey(grid, 2, 0, 0);
        grid.plates(7);
        check.due("without a tick", grid.ofPixel(0, 1), 0);
        grid.tick(2);
        check.due("two of one grey", grid.ofPixel(0, 1), 51);
    }

    private static void flickerOfEach() {
        NemaGrid grid = new NemaGrid();
        for (int pixel = 0; pixel < 8; pixel++) {
            grid.pixel(pixel % 4, pixel / 4, 1, 1);
            grid.anchor(pixel % 4, pixel / 4, NemaGrid.FIXED, pixel, 1);
        }
        int[] greys = {0, 17, 55, 90, 99, 75, 35, 4};
        grid.tick(9);
        for (int turned = 0; turned < 8; turned++) {
            grid.anchor(turned % 4, turned / 4, NemaGrid.FIXED, 4, 1);
            grid.tick(1);
            for (int pixel = 0; pixel < 8; pixel++) {
                boolean isSeen = pixel <= turned && turned - pixel < 7;
                check.due("flicker of " + pixel, grid.ofPixel(pixel, 1), isSeen ? 99 - greys[pixel] : 0);
            }
        }
        grid.tick(1);
        check.due("the second one noted 99 alone", grid.ofPixel(1, 1), 0);
        check.due("the last one not yet", grid.ofPixel(7, 1), 95);
        grid.tick(5);
        check.due("the last one not even now", grid.ofPixel(7, 1), 95);
        grid.tick(1);
        check.due("the last one now", grid.ofPixel(7, 1), 0);
    }

    private static void good() {
        NemaGrid grid = new NemaGrid();
        grid.pixel(0, 0, 1, 1);
        grid.pixel(1, 0, 1, 1);
        grid.pixel(0, 3, 4, 1);
        grid.pixel(1, 2, 1, 1);
        grid.pixel(3, 0, 1, 3);
        grid.pixel(2, 1, 1, 1);
        check.due("all are good at first", goods(grid), 0b111111);
        grid.turn(1, 1, 3);
        grid.turn(2, 1, 7);
        grid.turn(2, 2, 11);
        check.due("the defect", grid.winding(1, 1), 1);
        check.due("the one beside it", grid.winding(2, 1), -1);
        check.due("there are no others", grid.defects(), 2);
        check.due("those with a cell of it are not", goods(grid), 0b000111);
    }

    /** Four quarters of one direction each, with a defect in their middle alone. */
    private static NemaGrid quarters(int middleX, int middleY) {
        NemaGrid grid = new NemaGrid();
        for (int y = 0; y < 4; y++) {
            for (int x = 0; x < 4; x++) {
                int top = x <= middleX ? 1 : 5;
                int bottom = x <= middleX ? 13 : 9;
                grid.turn(x, y, y <= middleY ? top : bottom);
            }
        }
        return grid;
    }

    private static void goodRoundPlaces() {
        for (int middleY = 0; middleY < 3; middleY++) {
            for (int middleX = 0; middleX < 3; middleX++) {
                NemaGrid grid = quarters(middleX, middleY);
                check.due("the winding in the middle", grid.winding(middleX, middleY), 1);
                check.due("the only defect", grid.defects(), 1);
                for (int at = 0; at < 16; at++) {
                    int x = at % 4;
                    int y = at / 4;
                    if (at == 8) {
                        grid = quarters(middleX, middleY);
                    }
                    int pixel = grid.pixel(x, y, 1, 1);
                    boolean isIn = x - middleX >= 0 && x - middleX <= 1 && y - middleY >= 0 && y - middleY <= 1;
                    check.due("good at " + x + ", " + y, grid.ofPixel(pixel, 2), isIn ? 0 : 1);
                }
            }
        }
        NemaGrid edges = new NemaGrid();
        edges.pixel(0, 0, 4, 4);
        edges.turn(2, 3, 5);
        edges.turn(3, 3, 10);
        check.due("no place below the grid", edges.ofPixel(0, 2), edges.defects() == 0 ? 1 : 0);
    }

    private static int goods(NemaGrid grid) {
        int goods = 0;
        for (int pixel = 0; pixel < 6; pixel++) {
            goods |= grid.ofPixel(pixel, 2) << pixel;
        }
        return goods;
    }

    private static void ofPixelWrongly() {
        NemaGrid grid = new NemaGrid();
        check.outside(grid, "without pixels", () -> grid.ofPixel(0, 0));
        grid.pixel(0, 0, 2, 2);
        for (int what : new int[] {Integer.MIN_VALUE, -1, 5, Integer.MAX_VALUE}) {
            check.argument(grid, "what " + what, () -> grid.ofPixel(0, what));
            check.outside(grid, "no pixel, what " + what, () -> grid.ofPixel(1, what));
        }
        for (int pixel : new int[] {Integer.MIN_VALUE, -1, 1, 8, Integer.MAX_VALUE}) {
            check.outside(grid, "pixel " + pixel, () -> grid.ofPixel(pixel, 0));
        }
    }

    public static void main(String[] args) {
        pixel();
        eightPixels();
        pixelWrongly();
        drive();
        program();
        programWrongly();
        grey();
        flicker();
        flickerOfEach();
        good();
        goodRoundPlaces();
        ofPixelWrongly();
        check.end();
    }
}
