import java.util.ArrayList;
import java.util.List;

/** What later calls answer: all questions, and calls that change the grid, which bring to light what no question tells. */
final class Later {
    private record Asked(String name, Grid.Call call) {
        String of(NemaGrid grid) {
            try {
                return String.valueOf(call.on(grid));
            } catch (RuntimeException refused) {
                return refused.getClass().getSimpleName();
            }
        }
    }

    private static final int MOST_PIXELS = 8, MOST_PICTURES = 10, DEFECTS = 4;
    private static final int LEAST_ROOM = 160;

    private final List<Asked> asked = new ArrayList<>();
    private final int width;
    private final int height;

    private Later(int width, int height) {
        this.width = width;
        this.height = height;
    }

    private void ask(String name, Grid.Call call) {
        asked.add(new Asked(name, call));
    }

    /** The first later call that is answered otherwise because of calls that were refused; "none" is due. */
    static String difference(Grid grid) {
        Later questions = new Later(grid.width(), grid.height());
        questions.askOfGrid();
        questions.askOfCells();
        questions.askOfPixels();
        questions.askOfPictures();
        int room = Grid.MOST_CALLS - grid.calls();
        if (room < LEAST_ROOM) {
            throw new AssertionError("the test leaves " + room + " calls to look at what a refused call changes");
        }
        for (int from = 0; from < questions.asked.size(); from += room) {
            int to = Math.min(from + room, questions.asked.size());
            String found = compare(grid.twin(), grid.twinWithoutRefused(), questions.asked.subList(from, to));
            if (found != null) {
                return found;
            }
        }
        Later life = new Later(grid.width(), grid.height());
        life.goOn();
        int to = Math.min(room, life.asked.size());
        String found = compare(grid.twin(), grid.twinWithoutRefused(), life.asked.subList(0, to));
        return found == null ? "none" : found;
    }

    private static String compare(NemaGrid grid, NemaGrid without, List<Asked> asked) {
        for (Asked one : asked) {
            String got = one.of(grid);
            String want = one.of(without);
            if (!got.equals(want)) {
                return one.name + ": " + got + " instead of " + want;
            }
        }
        return null;
    }

    private void askOfGrid() {
        ask("now", NemaGrid::now);
        ask("energy", NemaGrid::energy);
        ask("energyAnew", NemaGrid::energyAnew);
        ask("work", grid -> grid.spent(false));
        ask("heat", grid -> grid.spent(true));
        ask("defects", NemaGrid::defects);
        for (int defect = 0; defect < DEFECTS; defect++) {
            int number = defect;
            for (int what = 0; what <= 2; what++) {
                int which = what;
                ask("defect " + number + " " + which, grid -> grid.defect(number, which));
            }
        }
        ask("within all", grid -> grid.within(0, 0, width - 1, height - 1));
        ask("border of all", grid -> grid.border(0, 0, width - 1, height - 1));
    }

    private void askOfCells() {
        // a cell that is not there must not be there later, so one more than there are is asked
        for (int y = 0; y <= height; y++) {
            for (int x = 0; x <= width; x++) {
                int atX = x;
                int atY = y;
                for (int what = 0; what <= 4; what++) {
                    int which = what;
                    ask("told " + x + " " + y + " " + which, grid -> grid.told(atX, atY, which));
                }
                ask("winding " + x + " " + y, grid -> grid.winding(atX, atY));
            }
        }
        ask("least right", grid -> grid.least(0, 0, true));
        ask("least below", grid -> grid.least(0, 0, false));
    }

    private void askOfPixels() {
        for (int pixel = 0; pixel < MOST_PIXELS; pixel++) {
            int number = pixel;
            for (int what = 0; what <= 4; what++) {
                int which = what;
                ask("ofPixel " + number + " " + which, grid -> grid.ofPixel(number, which));
            }
        }
    }

    private void askOfPictures() {
        for (int picture = 0; picture < MOST_PICTURES; picture++) {
            int number = picture;
            ask("ghosts " + number, grid -> grid.ghosts(number));
            for (int at = 0; at < Math.max(width, height); at++) {
                int x = Math.min(at, width - 1);
                int y = Math.min(at, height - 1);
                ask("pictured " + number + " " + x + " " + y, grid -> grid.pictured(number, x, y));
                ask("guesses " + number + " " + x + " " + y, grid -> grid.guesses(number, x, y));
            }
        }
    }

    /** Turning tells costs and anchors, ticks tell programs, the numbers of new things tell how many there were. */
    private void goOn() {
        askHowAll();
        for (int at = 0; at < Math.max(width, height); at++) {
            int x = at % width;
            int y = at % height;
            int direction = (5 * at + 4) % 15;
            ask("turn " + x + " " + y, grid -> grid.turn(x, y, direction));
        }
        ask("program", grid -> grid.program(0, 2000, 5, 5));
        for (int i = 0; i < 8; i++) {
            ask("tick", grid -> grid.tick(1));
            ask("now", NemaGrid::now);
            askHowAll();
        }
        ask("ghosts", grid -> grid.ghosts(0));
        for (int at = 0; at < Math.max(width, height); at++) {
            int x = at % width;
            int y = height - 1 - at % height;
            ask("anchor " + x + " " + y, grid -> grid.anchor(x, y, NemaGrid.FREE, 0, 1));
            ask("pixel " + x + " " + y, grid -> grid.pixel(x, y, 1, 1));
        }
        for (int pixel = 0; pixel < MOST_PIXELS; pixel++) {
            int number = pixel;
            ask("drive " + number, grid -> grid.drive(number, 4, 7));
        }
        ask("costs", grid -> grid.costs(17, 2));
        ask("picture", NemaGrid::picture);
        ask("plates", grid -> grid.plates(9));
        for (int i = 0; i < 3; i++) {
            ask("tick", grid -> grid.tick(50));
            askHowAll();
        }
        ask("now", NemaGrid::now);
    }

    private void askHowAll() {
        ask("energy", NemaGrid::energy);
        ask("energyAnew", NemaGrid::energyAnew);
        ask("work", grid -> grid.spent(false));
        ask("heat", grid -> grid.spent(true));
        ask("flicker", grid -> grid.ofPixel(0, 1));
    }
}
