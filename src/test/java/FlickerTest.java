/** Promise 23 with 1: "It flickers by the greatest less the least of what it noted in the last 8 ticks". */
public final class FlickerTest {
    private static final Check check = new Check("FlickerTest");
    private static final int[] GREYS = {0, 17, 55, 90, 99, 75, 35, 4};

    /** A tick with a grey by the plates, of a pixel whose cells stay at 0. */
    private static void note(Grid grid, int plates) {
        grid.plates(plates);
        grid.tick(1);
    }

    /** "0 without any" */
    private static void withoutAny() {
        Grid grid = new Grid();
        grid.plates(4);
        grid.tick(9);
        grid.pixel(0, 0, 2, 2);
        check.due("none noted", grid.ofPixel(0, 1), 0);
        grid.plates(0);
        check.due("none noted by turning the plates", grid.ofPixel(0, 1), 0);
        grid.turn(0, 0, 4);
        check.due("none noted by turning a cell", grid.ofPixel(0, 1), 0);
    }

    private static void withOne() {
        Grid grid = new Grid();
        grid.pixel(0, 0, 2, 2);
        note(grid, 4);
        check.due("one alone", grid.ofPixel(0, 1), 0);
        grid.plates(0);
        check.due("the grey now is not noted", grid.ofPixel(0, 1), 0);
    }

    /** "as many as there were since it was made" */
    private static void fewerThanEight() {
        Grid grid = new Grid();
        note(grid, 0);
        note(grid, 7);
        grid.pixel(0, 0, 2, 2);
        int[] plates = {3, 2, 4, 2, 5, 3, 2};
        int[] due = {0, 35, 44, 44, 44, 44, 44};
        for (int i = 0; i < plates.length; i++) {
            note(grid, plates[i]);
            check.due("after " + (i + 1), grid.ofPixel(0, 1), due[i]);
        }
    }

    /** "the last 8 ticks": the eighth one back counts, the ninth one does not */
    private static void theEighthAndTheNinth() {
        for (int odd = 0; odd < 8; odd += 4) {
            Grid grid = new Grid();
            grid.pixel(0, 0, 2, 2);
            note(grid, odd);
            for (int i = 1; i < 8; i++) {
                note(grid, 2);
                check.due("with the odd one, " + i + " ticks back", grid.ofPixel(0, 1), odd == 0 ? 55 : 44);
            }
            note(grid, 2);
            check.due("without it", grid.ofPixel(0, 1), 0);
            note(grid, 3);
            check.due("the newest one counts", grid.ofPixel(0, 1), 35);
        }
    }

    private static void eachPlaceInTheRow() {
        // nine and more: the greatest and the least leave one by one
        int[] plates = {7, 4, 0, 2, 2, 1, 3, 2, 2, 2, 2, 2, 2, 2, 2, 2};
        int[] due = {0, 95, 99, 99, 99, 99, 99, 99, 99, 90, 73, 73, 73, 35, 0, 0};
        Grid grid = new Grid();
        grid.pixel(0, 0, 2, 2);
        for (int i = 0; i < plates.length; i++) {
            note(grid, plates[i]);
            check.due("after " + (i + 1), grid.ofPixel(0, 1), due[i]);
        }
    }

    private static void laterMadeOnes() {
        Grid grid = new Grid();
        grid.pixel(0, 0, 1, 1);
        note(grid, 4);
        note(grid, 0);
        grid.pixel(1, 1, 1, 1);
        note(grid, 2);
        note(grid, 3);
        check.due("of four", grid.ofPixel(0, 1), 99);
        check.due("of two", grid.ofPixel(1, 1), 35);
        grid.pixel(2, 2, 1, 1);
        check.due("of none", grid.ofPixel(2, 1), 0);
    }

    /** "Then each pixel notes its grey.": in a tick, and by no other call */
    private static void ticksAloneNote() {
        Grid grid = new Grid();
        grid.pixel(0, 0, 1, 1);
        note(grid, 4);
        for (int i = 0; i < 7; i++) {
            note(grid, 2);
        }
        grid.plates(7);
        grid.turn(0, 0, 9);
        grid.anchor(0, 0, NemaGrid.FIXED, 8, 1);
        grid.anchor(0, 0, NemaGrid.FREE, 8, 1);
        grid.costs(2, 2);
        grid.drive(0, 3, 4);
        grid.drive(0, 3, 0);
        grid.program(0, 2000, 1, 1);
        grid.picture();
        grid.pixel(1, 1, 1, 1);
        grid.ofPixel(0, 0);
        grid.told(0, 0, 3);
        grid.energyAnew();
        grid.ghosts(0);
        check.due("as it was", grid.ofPixel(0, 1), 44);
        grid.turn(0, 0, 0);
        note(grid, 2);
        check.due("the first note is the ninth one now", grid.ofPixel(0, 1), 0);
    }

    /** A refused call is no tick. */
    private static void refusedTicksNoteNothing() {
        Grid grid = new Grid();
        grid.pixel(0, 0, 1, 1);
        note(grid, 4);
        for (int i = 0; i < 8; i++) {
            note(grid, 2);
            if (i < 7) {
                grid.plates(7);
                check.argument(grid, "no tick", () -> grid.tick(0));
                check.argument(grid, "no ticks", () -> grid.tick(51));
                check.due("the ninth one is not there", grid.ofPixel(0, 1), 44);
            }
        }
        check.due("now it is", grid.ofPixel(0, 1), 0);
    }

    /** Each of eight pixels has notes of its own. */
    private static void ofEach() {
        Grid grid = new Grid();
        for (int pixel = 0; pixel < 8; pixel++) {
            grid.pixel(pixel % 4, pixel / 4, 1, 1);
            grid.anchor(pixel % 4, pixel / 4, NemaGrid.FIXED, pixel, 1);
        }
        grid.tick(9);
        for (int turned = 0; turned < 8; turned++) {
            grid.anchor(turned % 4, turned / 4, NemaGrid.FIXED, 4, 1);
            grid.tick(1);
            for (int pixel = 0; pixel < 8; pixel++) {
                boolean isSeen = pixel <= turned && turned - pixel < 7;
                check.due("flicker of " + pixel, grid.ofPixel(pixel, 1), isSeen ? 99 - GREYS[pixel] : 0);
            }
        }
        grid.tick(1);
        check.due("the second one noted 99 alone", grid.ofPixel(1, 1), 0);
        check.due("the last one not yet", grid.ofPixel(7, 1), 95);
        grid.tick(5);
        check.due("the last one not even now", grid.ofPixel(7, 1), 95);
        grid.tick(1);
        check.due("the last one now", grid.ofPixel(7, 1), 0);
    }

    /** What is noted is the mean of the cells, rounded down, after relaxing. */
    private static void notesTheMean() {
        Grid grid = new Grid();
        grid.costs(0, 0);
        grid.pixel(0, 0, 3, 1);
        grid.tick(1);
        grid.turn(0, 0, 1);
        check.due("not yet", grid.ofPixel(0, 1), 0);
        grid.tick(1);
        check.due("17 by three", grid.ofPixel(0, 1), 5);
        grid.anchor(0, 0, NemaGrid.WEAK, 3, 1);
        grid.tick(1);
        check.due("55 by three, after it turned", grid.ofPixel(0, 1), 18);
    }

    private static void ticksOfOneCall() {
        Grid grid = new Grid();
        grid.pixel(0, 0, 1, 1);
        note(grid, 4);
        grid.plates(2);
        grid.tick(7);
        check.due("seven at once", grid.ofPixel(0, 1), 44);
        grid.tick(1);
        check.due("and one", grid.ofPixel(0, 1), 0);
        note(grid, 4);
        grid.plates(2);
        grid.tick(8);
        check.due("eight at once", grid.ofPixel(0, 1), 0);
        note(grid, 4);
        grid.plates(2);
        grid.tick(50);
        check.due("fifty at once", grid.ofPixel(0, 1), 0);
    }

    /** However many ticks there were, it is the last 8 that count. */
    private static void afterManyTicks() {
        for (int from = 0; from < 2000; from += 200) {
            Grid grid = new Grid();
            grid.pixel(0, 0, 2, 2);
            grid.plates(2);
            for (int now = 0; now < from; now += 50) {
                grid.tick(50);
            }
            for (int cycle = 0; cycle < 28; cycle++) {
                grid.plates(4);
                grid.tick(3);
                int before = from + cycle > 0 ? 44 : 0;
                check.due("before and in the tick " + (from + 7 * cycle + 3), grid.ofPixel(0, 1), before);
                grid.plates(2);
                grid.tick(4);
                check.due("in the tick " + (from + 7 * cycle + 7), grid.ofPixel(0, 1), 44);
            }
            grid.plates(4);
            grid.tick(4);
            check.due("the tick", grid.now(), from + 200);
            check.due("in the tick " + (from + 200), grid.ofPixel(0, 1), 44);
        }
    }

    private static void theLastTickOfAll() {
        Grid grid = Grids.at(1950);
        grid.costs(0, 0);
        grid.pixel(0, 0, 1, 1);
        grid.program(0, 2000, 7, 1);
        grid.tick(50);
        check.due("the last tick", grid.now(), 2000);
        check.due("it is noted too", grid.ofPixel(0, 1), 17);
    }

    public static void main(String[] args) {
        withoutAny();
        withOne();
        fewerThanEight();
        theEighthAndTheNinth();
        eachPlaceInTheRow();
        laterMadeOnes();
        ticksAloneNote();
        refusedTicksNoteNothing();
        ofEach();
        notesTheMean();
        ticksOfOneCall();
        afterManyTicks();
        theLastTickOfAll();
        check.end();
    }
}
