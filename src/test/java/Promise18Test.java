/** Promise 18, winding: "Returns the winding of a place." */
public final class Promise18Test {
    private static final Check check = new Check("Promise18Test");

    /** "A place has the four cells x, y; x and 1, y; x and 1, y and 1; x, y and 1." "if there is no such place" */
    private static void places() {
        Grid grid = new Grid();
        grid.grid(3, 5);
        check.due("the first place", grid.winding(0, 0), 0);
        check.due("the last place", grid.winding(1, 3), 0);
        check.due("the last place across", grid.winding(1, 0), 0);
        check.due("the last place down", grid.winding(0, 3), 0);
        for (int x : Check.beyond(0, 1)) {
            check.outside(grid, "x " + x, () -> grid.winding(x, 0));
            check.outside(grid, "x " + x + " in the last row", () -> grid.winding(x, 3));
        }
        for (int y : Check.beyond(0, 3)) {
            check.outside(grid, "y " + y, () -> grid.winding(0, y));
            check.outside(grid, "y " + y + " in the last column", () -> grid.winding(1, y));
        }
        check.outside(grid, "the last cell", () -> grid.winding(2, 4));
        check.outside(grid, "behind the last cell", () -> grid.winding(3, 5));
        check.outside(grid, "before the first cell", () -> grid.winding(-1, -1));
    }

    private static void placesOfTheGreatestAndTheSmallest() {
        Grid great = new Grid();
        great.grid(12, 12);
        great.turn(10, 10, 1);
        great.turn(11, 10, 5);
        great.turn(11, 11, 9);
        great.turn(10, 11, 13);
        check.due("the last place of 12 by 12", great.winding(10, 10), 1);
        check.outside(great, "x 11", () -> great.winding(11, 10));
        check.outside(great, "y 11", () -> great.winding(10, 11));
        Grid small = Grids.of(new int[] {1, 5}, new int[] {13, 9});
        check.due("the place of 2 by 2", small.winding(0, 0), 1);
        check.outside(small, "x 1", () -> small.winding(1, 0));
        check.outside(small, "y 1", () -> small.winding(0, 1));
    }

    /** "it is -1, 0 or 1" */
    private static void eachWinding() {
        check.due("none", new Grid().winding(0, 0), 0);
        check.due("once round", Grids.place(0, 4, 8, 12).winding(1, 1), 1);
        check.due("once round, begun elsewhere", Grids.place(12, 0, 4, 8).winding(1, 1), 1);
        check.due("once round, begun elsewhere still", Grids.place(8, 12, 0, 4).winding(1, 1), 1);
        check.due("once round, begun with 4", Grids.place(4, 8, 12, 0).winding(1, 1), 1);
        check.due("once round backwards", Grids.place(0, 12, 8, 4).winding(1, 1), -1);
        check.due("backwards, begun elsewhere", Grids.place(4, 0, 12, 8).winding(1, 1), -1);
        check.due("to and back", Grids.place(0, 4, 8, 4).winding(1, 1), 0);
        check.due("back and to", Grids.place(0, 12, 8, 12).winding(1, 1), 0);
    }

    /** "How much the direction b is on from a is the number from -7 to 7" */
    private static void sevenAndEight() {
        check.due("seven on is on", Grids.place(0, 7, 14, 0).winding(1, 1), 1);
        check.due("seven back is back", Grids.place(0, 8, 1, 0).winding(1, 1), -1);
        check.due("seven on, and round behind", Grids.place(0, 7, 8, 12).winding(1, 1), 1);
        check.due("eight on is back", Grids.place(0, 8, 9, 12).winding(1, 1), 0);
        check.due("eight on and back", Grids.place(0, 8, 0, 8).winding(1, 1), 0);
        check.due("seven on and back", Grids.place(0, 7, 0, 7).winding(1, 1), 0);
    }

    /** "the first one from the last one": each of the four steps may be the one over the end */
    private static void overTheEnd() {
        check.due("at the second", Grids.place(14, 0, 0, 0).winding(1, 1), 0);
        check.due("at the third", Grids.place(14, 14, 0, 0).winding(1, 1), 0);
        check.due("at the fourth", Grids.place(14, 14, 14, 0).winding(1, 1), 0);
        check.due("at the first", Grids.place(0, 14, 14, 14).winding(1, 1), 0);
        check.due("round by small steps", Grids.place(13, 2, 6, 10).winding(1, 1), 1);
        check.due("round by the smallest last one", Grids.place(0, 7, 14, 0).winding(1, 1), 1);
        check.due("round by the smallest first one", Grids.place(0, 1, 8, 0).winding(1, 1), 1);
        check.due("no round: seven, seven and back", Grids.place(0, 7, 14, 7).winding(1, 1), 0);
    }

    private static void eachOfThirdAndFourth() {
        // 0, 5 and a third and a fourth one: round if the third is 1 to 7 on from 5 and the rest leads on to 15
        for (int third = 0; third < 15; third++) {
            Grid grid = Grids.place(0, 5, third, 0);
            boolean isRound = third >= 8 && third <= 12;
            check.due("0, 5, " + third + ", 0", grid.winding(1, 1), isRound ? 1 : 0);
            Grid back = Grids.place(0, 0, third, 5);
            check.due("0, 0, " + third + ", 5", back.winding(1, 1), isRound ? -1 : 0);
        }
    }

    public static void main(String[] args) {
        places();
        placesOfTheGreatestAndTheSmallest();
        eachWinding();
        sevenAndEight();
        overTheEnd();
        eachOfThirdAndFourth();
        check.end();
    }
}
