import java.util.ArrayList;
import java.util.List;

/** A NemaGrid that keeps its calls, so that twins of it can be made, and that gets no more calls than an object may. */
final class Grid {
    /** What later calls answer is free, so no test asks for more. */
    static final int MOST_CALLS = 512;

    interface Call {
        long on(NemaGrid grid);
    }

    private final NemaGrid own = new NemaGrid();
    private final List<Call> calls = new ArrayList<>();
    private final List<Call> answered = new ArrayList<>();
    private int width = 4;
    private int height = 4;

    private int ask(Call call) {
        if (calls.size() >= MOST_CALLS) {
            throw new AssertionError("the test asks one object for more than " + MOST_CALLS + " calls");
        }
        calls.add(call);
        int answer = (int) call.on(own);
        answered.add(call);
        return answer;
    }

    int calls() {
        return calls.size();
    }

    int width() {
        return width;
    }

    int height() {
        return height;
    }

    /** A new object with all calls, the refused ones too. */
    NemaGrid twin() {
        NemaGrid twin = new NemaGrid();
        for (Call call : calls) {
            try {
                call.on(twin);
            } catch (RuntimeException refused) {
                // as it was of the first one
            }
        }
        return twin;
    }

    /** A new object that never heard of the refused calls. */
    NemaGrid twinWithoutRefused() {
        NemaGrid twin = new NemaGrid();
        for (Call call : answered) {
            call.on(twin);
        }
        return twin;
    }

    void grid(int newWidth, int newHeight) {
        ask(grid -> {
            grid.grid(newWidth, newHeight);
            return 0;
        });
        width = newWidth;
        height = newHeight;
    }

    int costs(int across, int down) {
        return ask(grid -> grid.costs(across, down));
    }

    int turn(int x, int y, int direction) {
        return ask(grid -> grid.turn(x, y, direction));
    }

    int anchor(int x, int y, int kind, int direction, int strength) {
        return ask(grid -> grid.anchor(x, y, kind, direction, strength));
    }

    int pixel(int x, int y, int wide, int high) {
        return ask(grid -> grid.pixel(x, y, wide, high));
    }

    int drive(int pixel, int direction, int strength) {
        return ask(grid -> grid.drive(pixel, direction, strength));
    }

    int program(int pixel, int tick, int direction, int strength) {
        return ask(grid -> grid.program(pixel, tick, direction, strength));
    }

    int tick(int ticks) {
        return ask(grid -> grid.tick(ticks));
    }

    int plates(int direction) {
        return ask(grid -> grid.plates(direction));
    }

    int picture() {
        return ask(NemaGrid::picture);
    }

    int now() {
        return ask(NemaGrid::now);
    }

    int told(int x, int y, int what) {
        return ask(grid -> grid.told(x, y, what));
    }

    int energy() {
        return ask(NemaGrid::energy);
    }

    int energyAnew() {
        return ask(NemaGrid::energyAnew);
    }

    int spent(boolean isHeat) {
        return ask(grid -> grid.spent(isHeat));
    }

    int least(int x, int y, boolean right) {
        return ask(grid -> grid.least(x, y, right));
    }

    int winding(int x, int y) {
        return ask(grid -> grid.winding(x, y));
    }

    int within(int x, int y, int toX, int toY) {
        return ask(grid -> grid.within(x, y, toX, toY));
    }

    int border(int x, int y, int toX, int toY) {
        return ask(grid -> grid.border(x, y, toX, toY));
    }

    int defects() {
        return ask(NemaGrid::defects);
    }

    int defect(int defect, int what) {
        return ask(grid -> grid.defect(defect, what));
    }

    int ofPixel(int pixel, int what) {
        return ask(grid -> grid.ofPixel(pixel, what));
    }

    int pictured(int picture, int x, int y) {
        return ask(grid -> grid.pictured(picture, x, y));
    }

    int ghosts(int picture) {
        return ask(grid -> grid.ghosts(picture));
    }

    int guesses(int picture, int x, int y) {
        return ask(grid -> grid.guesses(picture, x, y));
    }
}
