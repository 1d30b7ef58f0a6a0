/** All that the questions answer of an object, as a text. */
final class State {
    private static final int MOST_SIDE = 12;
    private static final int MOST_PIXELS = 8;
    private static final int MOST_PICTURES = 10;

    private State() {
    }

    static String of(NemaGrid grid) {
        StringBuilder text = new StringBuilder();
        text.append("now ").append(grid.now()).append(", energy ").append(grid.energy());
        text.append(", anew ").append(grid.energyAnew()).append(", work ").append(grid.spent(false));
        text.append(", heat ").append(grid.spent(true)).append(", defects ").append(grid.defects()).append('\n');
        for (int y = 0; y < MOST_SIDE && hasCell(grid, 0, y); y++) {
            for (int x = 0; x < MOST_SIDE && hasCell(grid, x, y); x++) {
                for (int what = 0; what <= 4; what++) {
                    text.append(grid.told(x, y, what)).append(what < 4 ? "," : " ");
                }
                tellPictures(grid, x, y, text);
            }
            text.append('\n');
        }
        for (int pixel = 0; pixel < MOST_PIXELS && hasPixel(grid, pixel); pixel++) {
            text.append("pixel");
            for (int what = 0; what <= 4; what++) {
                text.append(' ').append(grid.ofPixel(pixel, what));
            }
            text.append('\n');
        }
        return text.toString();
    }

    private static void tellPictures(NemaGrid grid, int x, int y, StringBuilder text) {
        for (int picture = 0; picture < MOST_PICTURES && hasPicture(grid, picture); picture++) {
            text.append(grid.pictured(picture, x, y)).append('/').append(grid.guesses(picture, x, y)).append(' ');
        }
    }

    static boolean hasCell(NemaGrid grid, int x, int y) {
        try {
            grid.told(x, y, 0);
            return true;
        } catch (IndexOutOfBoundsException none) {
            return false;
        }
    }

    static boolean hasPixel(NemaGrid grid, int pixel) {
        try {
            grid.ofPixel(pixel, 0);
            return true;
        } catch (IndexOutOfBoundsException none) {
            return false;
        }
    }

    static boolean hasPicture(NemaGrid grid, int picture) {
        try {
            grid.ghosts(picture);
            return true;
        } catch (IndexOutOfBoundsException none) {
            return false;
        }
    }
}
