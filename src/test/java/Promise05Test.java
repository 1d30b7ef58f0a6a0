/** Promise 5, anchor: "Anchors a cell, or frees it, a FIXED one too." */
public final class Promise05Test {
    private static final Check check = new Check("Promise05Test");
    private static final int FREE = NemaGrid.FREE, FIXED = NemaGrid.FIXED, WEAK = NemaGrid.WEAK;

    /** "@throws IndexOutOfBoundsException if there is no such cell" */
    private static void cells() {
        Grid grid = new Grid();
        grid.grid(3, 5);
        check.due("the first cell", grid.anchor(0, 0, FIXED, 1, 1), 2);
        check.due("the last cell", grid.anchor(2, 4, FIXED, 2, 1), 8);
        check.due("the last cell across", grid.anchor(2, 0, WEAK, 3, 1), 9);
        check.due("the last cell down", grid.anchor(0, 4, WEAK, 4, 1), 16);
        for (int x : Check.beyond(0, 2)) {
            check.outside(grid, "x " + x, () -> grid.anchor(x, 4, FIXED, 7, 1));
        }
        for (int y : Check.beyond(0, 4)) {
            check.outside(grid, "y " + y, () -> grid.anchor(2, y, WEAK, 7, 1));
            check.outside(grid, "both " + y, () -> grid.anchor(y, y, FREE, 7, 1));
        }
    }

    /** "@param kind FREE to WEAK" */
    private static void kind() {
        Grid grid = Grids.busy();
        check.due("the first kind", grid.anchor(2, 0, FREE, 6, 30) < 0 ? 1 : 0, 1);
        check.due("FREE", grid.told(2, 0, 1), FREE);
        grid.anchor(2, 0, WEAK, 6, 30);
        check.due("the last kind", grid.told(2, 0, 1), WEAK);
        grid.anchor(2, 0, FIXED, 6, 30);
        check.due("FIXED", grid.told(2, 0, 1), FIXED);
        for (int kind : Check.beyond(FREE, WEAK)) {
            check.argument(grid, "kind " + kind + " of a FIXED one", () -> grid.anchor(2, 0, kind, 7, 1));
            check.argument(grid, "kind " + kind + " of a FREE one", () -> grid.anchor(0, 0, kind, 7, 100));
        }
    }

    /** "@param direction 0 to 14; for FREE it does not matter but for its range" */
    private static void direction() {
        for (int kind = FREE; kind <= WEAK; kind++) {
            int same = kind;
            Grid grid = Grids.busy();
            for (int direction : Check.beyond(0, 14)) {
                check.argument(grid, kind + " to " + direction, () -> grid.anchor(1, 1, same, direction, 1));
                check.argument(grid, "WEAK to " + kind + " to " + direction,
                        () -> grid.anchor(2, 0, same, direction, 9));
                check.argument(grid, "FIXED to " + kind + " to " + direction,
                        () -> grid.anchor(2, 3, same, direction, 100));
            }
            grid.anchor(1, 1, kind, 0, 1);
            check.due("the first direction", grid.told(1, 1, 1), kind);
            grid.anchor(1, 2, kind, 14, 1);
            check.due("the last direction", grid.told(1, 2, 1), kind);
        }
    }

    /** "@param strength 1 to 100; it matters for WEAK alone, but for its range" */
    private static void strength() {
        for (int kind = FREE; kind <= WEAK; kind++) {
            int same = kind;
            Grid grid = Grids.busy();
            for (int strength : Check.beyond(1, 100)) {
                check.argument(grid, kind + " by " + strength, () -> grid.anchor(1, 1, same, 3, strength));
                check.argument(grid, "WEAK to " + kind + " by " + strength,
                        () -> grid.anchor(2, 0, same, 3, strength));
                check.argument(grid, "FIXED to " + kind + " by " + strength,
                        () -> grid.anchor(2, 3, same, 3, strength));
            }
            check.argument(grid, kind + " by -1", () -> grid.anchor(1, 1, same, 3, -1));
        }
    }

    private static void strengthOfWeak() {
        Grid grid = new Grid();
        check.due("the first strength", grid.anchor(0, 0, WEAK, 7, 1), 49);
        check.due("the last strength", grid.anchor(0, 0, WEAK, 7, 100), 4900 - 49);
        check.due("energy", grid.energy(), 4900);
        check.due("energy anew", grid.energyAnew(), 4900);
    }

    private static void strengthOfOthers() {
        for (int strength = 1; strength <= 100; strength += 99) {
            Grid grid = new Grid();
            check.due("FIXED by " + strength, grid.anchor(0, 0, FIXED, 2, strength), 8);
            check.due("energy of it", grid.energyAnew(), 8);
            check.due("FREE by " + strength, grid.anchor(0, 0, FREE, 7, strength), 0);
            check.due("energy of that", grid.energyAnew(), 8);
        }
    }

    /** "for FREE it does not matter" */
    private static void directionOfFree() {
        Grid grid = new Grid();
        grid.turn(1, 1, 3);
        for (int direction = 0; direction <= 14; direction++) {
            check.due("freed at " + direction, grid.anchor(1, 1, FREE, direction, 50), 0);
            check.due("its direction", grid.told(1, 1, 0), 3);
            check.due("its energy", grid.told(1, 1, 4), 36);
        }
    }

    /** "for FIXED the cell turns to it" */
    private static void fixed() {
        Grid grid = new Grid();
        check.due("FIXED turns it", grid.anchor(0, 0, FIXED, 5, 1), 50);
        check.due("its direction", grid.told(0, 0, 0), 5);
        check.due("its kind", grid.told(0, 0, 1), FIXED);
        check.due("FIXED anew, at the last direction", grid.anchor(0, 0, FIXED, 14, 100), 2 - 50);
        check.due("its direction anew", grid.told(0, 0, 0), 14);
        check.due("FIXED anew, at the first direction", grid.anchor(0, 0, FIXED, 0, 100), -2);
        check.due("the same again", grid.anchor(0, 0, FIXED, 0, 100), 0);
        grid.tick(3);
        check.due("nothing changes it", grid.told(0, 0, 0), 0);
        grid.pixel(0, 0, 1, 1);
        grid.drive(0, 7, 100);
        grid.tick(3);
        check.due("nor does a field", grid.told(0, 0, 0), 0);
    }

    private static void weak() {
        Grid grid = new Grid();
        grid.turn(0, 0, 14);
        check.due("WEAK where it is", grid.anchor(0, 0, WEAK, 14, 100), 0);
        check.due("WEAK at 2", grid.anchor(0, 0, WEAK, 2, 100), 900);
        check.due("it does not turn", grid.told(0, 0, 0), 14);
        check.due("its kind", grid.told(0, 0, 1), WEAK);
        check.due("weaker", grid.anchor(0, 0, WEAK, 2, 1), 9 - 900);
        check.due("at the first direction", grid.anchor(0, 0, WEAK, 0, 1), 1 - 9);
        check.due("at the last direction", grid.anchor(0, 0, WEAK, 14, 1), -1);
        check.due("seven apart", grid.anchor(0, 0, WEAK, 6, 1), 49);
        check.due("seven apart on the other side", grid.anchor(0, 0, WEAK, 7, 1), 0);
        check.due("energy", grid.energy(), 49 + 2);
    }

    /** "or frees it, a FIXED one too" */
    private static void frees() {
        Grid grid = new Grid();
        check.due("WEAK", grid.anchor(1, 1, WEAK, 3, 10), 90);
        check.due("WEAK to FIXED: its strength is gone", grid.anchor(1, 1, FIXED, 1, 10), 4 - 90);
        check.due("FIXED is freed", grid.anchor(1, 1, FREE, 9, 10), 0);
        check.due("FREE", grid.told(1, 1, 1), FREE);
        check.due("it keeps its direction", grid.told(1, 1, 0), 1);
        check.due("and turns", grid.turn(1, 1, 0), -4);
        check.due("its old strength is forgotten", grid.energyAnew(), 0);
        check.due("WEAK again", grid.anchor(1, 1, WEAK, 2, 5), 20);
        check.due("WEAK is freed", grid.anchor(1, 1, FREE, 2, 5), -20);
        check.due("a FREE one is freed", grid.anchor(1, 1, FREE, 2, 5), 0);
        check.due("FIXED to WEAK", grid.anchor(2, 2, FIXED, 4, 1) + grid.anchor(2, 2, WEAK, 5, 3), 64 + 3);
        grid.tick(1);
        check.due("and it relaxes", grid.told(2, 2, 0), 3);
        check.due("work", grid.spent(false), 64 + 3);
    }

    /** "If several exceptions apply to a call, the one that its comment lists first is thrown." */
    private static void theFirstException() {
        Grid grid = Grids.busy();
        check.outside(grid, "no cell, no kind", () -> grid.anchor(5, 0, 3, 0, 1));
        check.outside(grid, "no cell, no direction", () -> grid.anchor(0, 4, FIXED, 15, 1));
        check.outside(grid, "no cell, no strength", () -> grid.anchor(-1, 0, WEAK, 0, 101));
        check.outside(grid, "nothing of all", () -> grid.anchor(0, -1, -1, -1, 0));
        check.argument(grid, "all but the cell", () -> grid.anchor(2, 3, -1, -1, 0));
    }

    public static void main(String[] args) {
        cells();
        kind();
        direction();
        strength();
        strengthOfWeak();
        strengthOfOthers();
        directionOfFree();
        fixed();
        weak();
        frees();
        theFirstException();
        check.end();
    }
}
