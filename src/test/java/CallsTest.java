/** Terms for all calls: as many as an object gets, questions that change nothing, and refused calls among others. */
public final class CallsTest {
    private static final Check check = new Check("CallsTest");

    /** "An object is used for at most 512 calls after it has been made": the last one of them is answered too. */
    private static void theLastCall() {
        Grid grid = new Grid();
        for (int i = 1; i < Grid.MOST_CALLS; i++) {
            check.due("turn " + i, grid.turn(1, 1, i % 2), i % 2 == 1 ? 4 : -4);
        }
        check.due("the last call", grid.energyAnew(), 4);
        check.due("calls", grid.calls(), 512);
    }

    private static void theLastCallOfLongTicks() {
        NemaGrid grid = new NemaGrid();
        int calls = 0;
        int ticks = 0;
        grid.grid(12, 12);
        for (calls = 1; calls < Grid.MOST_CALLS - 1; calls++) {
            if (ticks == 2000) {
                grid.grid(12, 12);
                ticks = 0;
            } else {
                grid.tick(50);
                ticks += 50;
            }
        }
        check.due("the last call but one", grid.now(), ticks);
        check.due("the last call", grid.energyAnew(), 0);
    }

    private static void theLastCallOfRefusedOnes() {
        NemaGrid grid = new NemaGrid();
        int refused = 0;
        for (int i = 1; i < Grid.MOST_CALLS; i++) {
            try {
                grid.turn(-1, 0, 0);
            } catch (IndexOutOfBoundsException none) {
                refused++;
            }
        }
        check.due("refused", refused, 511);
        check.due("the last call", grid.turn(3, 3, 2), 8);
    }

    private static Grid asked() {
        Grid grid = Grids.busy();
        grid.now();
        grid.energy();
        grid.energyAnew();
        grid.spent(true);
        grid.spent(false);
        grid.defects();
        grid.within(0, 0, 4, 3);
        grid.border(0, 0, 4, 3);
        for (int at = 0; at < 12; at++) {
            for (int what = 0; what <= 4; what++) {
                grid.told(at % 4, at / 4, what);
            }
            grid.least(at % 4, at / 4, true);
            grid.least(at % 4, at / 4, false);
            grid.winding(at % 4, at / 4);
            grid.pictured(0, at % 4, at / 4);
            grid.guesses(1, at % 4, at / 4);
        }
        for (int what = 0; what <= 4; what++) {
            grid.ofPixel(0, what);
            grid.ofPixel(1, what);
        }
        grid.ghosts(0);
        grid.ghosts(1);
        return grid;
    }

    private static void questionsChangeNothing() {
        Grid grid = asked();
        Grid other = Grids.busy();
        for (int i = 0; i < 12; i++) {
            check.due("heat of tick " + i, grid.tick(1), other.tick(1));
            check.due("work at tick " + i, grid.spent(false), other.spent(false));
            check.due("flicker at tick " + i, grid.ofPixel(0, 1), other.ofPixel(0, 1));
            check.due("flicker of the other at tick " + i, grid.ofPixel(1, 1), other.ofPixel(1, 1));
        }
        for (int at = 0; at < 20; at++) {
            check.due("direction " + at, grid.told(at % 5, at / 5, 0), other.told(at % 5, at / 5, 0));
        }
        check.due("plates", grid.plates(0), other.plates(0));
        check.due("costs", grid.costs(7, 9), other.costs(7, 9));
        check.due("drives", grid.program(0, 2000, 0, 0), other.program(0, 2000, 0, 0));
        check.due("pictures", grid.picture(), other.picture());
        check.due("pixels", grid.pixel(2, 0, 1, 1), other.pixel(2, 0, 1, 1));
    }

    /** The same calls always give the same answers. */
    private static void theSameAgain() {
        Grid grid = asked();
        Grid other = asked();
        check.due("energy", grid.energy(), other.energy());
        check.due("heat", grid.tick(50), other.tick(50));
        check.due("energy later", grid.energy(), other.energy());
    }

    /** "A call that throws an exception changes nothing.": one of each kind, one behind the other. */
    private static void manyRefusedOnes() {
        Grid grid = Grids.busy();
        check.argument(grid, "grid", () -> grid.grid(1, 1));
        check.argument(grid, "costs", () -> grid.costs(0, 21));
        check.state(grid, "turn", () -> grid.turn(2, 3, 1));
        check.argument(grid, "anchor", () -> grid.anchor(0, 0, NemaGrid.WEAK, 1, 0));
        check.state(grid, "pixel", () -> grid.pixel(2, 2, 2, 1));
        check.argument(grid, "drive", () -> grid.drive(0, 15, 1));
        check.argument(grid, "program", () -> grid.program(0, 2, 1, 1));
        check.argument(grid, "tick", () -> grid.tick(0));
        check.argument(grid, "plates", () -> grid.plates(15));
        check.outside(grid, "told", () -> grid.told(5, 0, 0));
        check.outside(grid, "least", () -> grid.least(4, 0, true));
        check.outside(grid, "winding", () -> grid.winding(4, 0));
        check.argument(grid, "within", () -> grid.within(1, 1, 1, 2));
        check.argument(grid, "border", () -> grid.border(1, 1, 2, 1));
        check.outside(grid, "defect", () -> grid.defect(20, 0));
        check.argument(grid, "ofPixel", () -> grid.ofPixel(1, 5));
        check.outside(grid, "pictured", () -> grid.pictured(2, 0, 0));
        check.outside(grid, "ghosts", () -> grid.ghosts(2));
        check.outside(grid, "guesses", () -> grid.guesses(0, 0, 4));
        check.due("energy is what it was", grid.energy(), Grids.busy().energy());
        check.due("now is what it was", grid.now(), 2);
    }

    /** "A grid has a width and a height of 2 to 12 cells": x goes by the width alone, y by the height alone. */
    private static void longGrids() {
        for (int width = 2; width <= 12; width += 10) {
            int height = 14 - width;
            int x = width - 1;
            int y = height - 1;
            Grid grid = new Grid();
            grid.grid(width, height);
            String size = " of " + width + " by " + height;
            check.due("turn" + size, grid.turn(x, y, 1), 2);
            check.due("told" + size, grid.told(x, y, 4), 2);
            check.due("anchor" + size, grid.anchor(x, y, NemaGrid.FIXED, 4, 1), 30);
            boolean isWide = width == 12;
            check.due("least across" + size, grid.least(x - 1, y, true), 16 + (isWide ? 1 + 1 + 9 : 4 + 4));
            check.due("least down" + size, grid.least(x, y - 1, false), 16 + (isWide ? 4 + 4 : 1 + 1 + 9));
            check.due("pixel" + size, grid.pixel(x, y, 1, 1), 0);
            check.due("picture" + size, grid.picture(), 0);
            check.due("pictured" + size, grid.pictured(0, x, y), 99);
            check.due("guesses" + size, grid.guesses(0, x, y), 2);
            check.due("winding" + size, grid.winding(x - 1, y - 1), 0);
            check.due("within" + size, grid.within(x - 1, y - 1, x, y), 0);
            check.due("border" + size, grid.border(0, 0, x, y), 0);
        }
    }

    /** At the tick 2000 no tick is left, but all else is as before. */
    private static void atTheLastTick() {
        Grid grid = Grids.at(2000);
        check.due("costs", grid.costs(2, 3), 0);
        check.due("turn", grid.turn(1, 1, 2), 4 * 10);
        check.due("anchor", grid.anchor(0, 0, NemaGrid.WEAK, 1, 5), 5);
        check.due("pixel", grid.pixel(1, 1, 1, 1), 0);
        check.due("drive", grid.drive(0, 1, 7), 7);
        check.due("plates", grid.plates(4), 0);
        check.due("picture", grid.picture(), 0);
        check.due("told", grid.told(1, 1, 4), 47);
        check.due("energy", grid.energy(), 52);
        check.due("work", grid.spent(false), 52);
        check.due("heat", grid.spent(true), 0);
        check.due("least", grid.least(2, 2, true), 0);
        check.due("winding", grid.winding(0, 0), 0);
        check.due("defects", grid.defects(), 0);
        check.due("ofPixel", grid.ofPixel(0, 0), 55);
        check.due("pictured", grid.pictured(0, 3, 3), 99);
        check.due("ghosts", grid.ghosts(0), 0);
        check.due("guesses", grid.guesses(0, 3, 3), 2);
        check.argument(grid, "program", () -> grid.program(0, 2000, 1, 1));
        check.state(grid, "tick", () -> grid.tick(1));
        check.due("now", grid.now(), 2000);
    }

    public static void main(String[] args) {
        theLastCall();
        theLastCallOfLongTicks();
        theLastCallOfRefusedOnes();
        questionsChangeNothing();
        theSameAgain();
        manyRefusedOnes();
        longGrids();
        atTheLastTick();
        check.end();
    }
}
