import java.util.ArrayList;
import java.util.List;

/** The document a second time, found anew from lists at each call, to hold the class against. */
public final class Model {
    private static final int[] GREYS = {0, 17, 55, 90, 99, 75, 35, 4};

    private static final class Cell {
        int x, y, direction, kind, weakDirection, weakStrength;
        Pixel pixel;
    }

    private static final class Pixel {
        int number, direction, strength;
        final List<Cell> cells = new ArrayList<>();
        final List<Integer> noted = new ArrayList<>();
    }

    private record Drive(Pixel pixel, int tick, int direction, int strength) {
    }

    private record Picture(int plates, int[] greys) {
    }

    private int width, height, across = 1, down = 1, plates, now, work, heat;
    private final List<Cell> cells = new ArrayList<>();
    private final List<Pixel> pixels = new ArrayList<>();
    private List<Drive> drives = new ArrayList<>();
    private final List<Picture> pictures = new ArrayList<>();

    public Model() {
        grid(4, 4);
    }

    private static int on(int a, int b) {
        int on = b - a;
        while (on > 7) {
            on -= 15;
        }
        while (on < -7) {
            on += 15;
        }
        return on;
    }

    private static int square(int a, int b) {
        return on(a, b) * on(a, b);
    }

    private static int grey(int direction, int plates) {
        return GREYS[Math.abs(on(direction, plates))];
    }

    private static void argument(boolean isRight) {
        if (!isRight) {
            throw new IllegalArgumentException();
        }
    }

    private static void inside(boolean isThere) {
        if (!isThere) {
            throw new IndexOutOfBoundsException();
        }
    }

    private static void state(boolean isRight) {
        if (!isRight) {
            throw new IllegalStateException();
        }
    }

    private static boolean in(int number, int least, int most) {
        return least <= number && number <= most;
    }

    private Cell find(int x, int y) {
        return in(x, 0, width - 1) && in(y, 0, height - 1) ? cells.get(y * width + x) : null;
    }

    private Cell cell(int x, int y) {
        Cell cell = find(x, y);
        inside(cell != null);
        return cell;
    }

    private Pixel pixelOf(int number) {
        inside(in(number, 0, pixels.size() - 1));
        return pixels.get(number);
    }

    private Picture pictureOf(int number) {
        inside(in(number, 0, pictures.size() - 1));
        return pictures.get(number);
    }

    /** The energy of all that has to do with one of these cells. */
    private int energyOf(List<Cell> of) {
        int energy = 0;
        for (Cell cell : cells) {
            if (of.contains(cell)) {
                if (cell.kind == 2) {
                    energy += cell.weakStrength * square(cell.direction, cell.weakDirection);
                }
                if (cell.pixel != null) {
                    energy += cell.pixel.strength * square(cell.direction, cell.pixel.direction);
                }
            }
            Cell right = find(cell.x + 1, cell.y);
            if (right != null && (of.contains(cell) || of.contains(right))) {
                energy += across * square(cell.direction, right.direction);
            }
            Cell below = find(cell.x, cell.y + 1);
            if (below != null && (of.contains(cell) || of.contains(below))) {
                energy += down * square(cell.direction, below.direction);
            }
        }
        return energy;
    }

    private int workSince(int before) {
        work += energyAnew() - before;
        return energyAnew() - before;
    }

    public void grid(int width, int height) {
        argument(in(width, 2, 12) && in(height, 2, 12));
        this.width = width;
        this.height = height;
        cells.clear();
        pixels.clear();
        drives.clear();
        pictures.clear();
        for (int i = 0; i < width * height; i++) {
            Cell cell = new Cell();
            cell.x = i % width;
            cell.y = i / width;
            cells.add(cell);
        }
        now = 0;
        work = 0;
        heat = 0;
    }

    public int costs(int across, int down) {
        argument(in(across, 0, 20) && in(down, 0, 20));
        int before = energyAnew();
        this.across = across;
        this.down = down;
        return workSince(before);
    }

    public int turn(int x, int y, int direction) {
        Cell cell = cell(x, y);
        argument(in(direction, 0, 14));
        state(cell.kind != 1);
        int before = energyAnew();
        cell.direction = direction;
        return workSince(before);
    }

    public int anchor(int x, int y, int kind, int direction, int strength) {
        Cell cell = cell(x, y);
        argument(in(kind, 0, 2) && in(direction, 0, 14) && in(strength, 1, 100));
        int before = energyAnew();
        cell.kind = kind;
        cell.weakDirection = direction;
        cell.weakStrength = strength;
        if (kind == 1) {
            cell.direction = direction;
        }
        return workSince(before);
    }

    public int pixel(int x, int y, int width, int height) {
        cell(x, y);
        argument(in(width, 1, 12) && in(height, 1, 12) && find(x + width - 1, y + height - 1) != null);
        Pixel pixel = new Pixel();
        for (Cell cell : cells) {
            if (in(cell.x, x, x + width - 1) && in(cell.y, y, y + height - 1)) {
                state(cell.pixel == null);
                pixel.cells.add(cell);
            }
        }
        state(pixels.size() < 8);
        for (Cell cell : pixel.cells) {
            cell.pixel = pixel;
        }
        pixel.number = pixels.size();
        pixels.add(pixel);
        return pixel.number;
    }

    public int drive(int pixel, int direction, int strength) {
        Pixel driven = pixelOf(pixel);
        argument(in(direction, 0, 14) && in(strength, 0, 100));
        int before = energyAnew();
        driven.direction = direction;
        driven.strength = strength;
        return workSince(before);
    }

    public int program(int pixel, int tick, int direction, int strength) {
        Pixel driven = pixelOf(pixel);
        argument(in(tick, now + 1, 2000) && in(direction, 0, 14) && in(strength, 0, 100));
        state(drives.size() < 40);
        drives.add(new Drive(driven, tick, direction, strength));
        return drives.size();
    }

    public int tick(int ticks) {
        argument(in(ticks, 1, 50));
        state(now + ticks <= 2000);
        int before = heat;
        for (int i = 0; i < ticks; i++) {
            tickOnce();
        }
        return heat - before;
    }

    private void tickOnce() {
        now++;
        List<Drive> later = new ArrayList<>();
        for (Drive drive : drives) {
            if (drive.tick == now) {
                drive(drive.pixel.number, drive.direction, drive.strength);
            } else {
                later.add(drive);
            }
        }
        drives = later;
        int before = energyAnew();
        for (Cell cell : cells) {
            if (cell.kind != 1) {
                relax(cell);
            }
        }
        heat += before - energyAnew();
        for (Pixel pixel : pixels) {
            pixel.noted.add(ofPixel(pixel.number, 0));
        }
    }

    private void relax(Cell cell) {
        int[] ways = {cell.direction, (cell.direction + 14) % 15, (cell.direction + 1) % 15};
        int[] energies = new int[3];
        int best = 0;
        for (int way = 0; way < 3; way++) {
            cell.direction = ways[way];
            energies[way] = energyOf(List.of(cell));
            best = energies[way] < energies[best] ? way : best;
        }
        cell.direction = ways[best];
    }

    public int plates(int direction) {
        argument(in(direction, 0, 14));
        int before = plates;
        plates = direction;
        return before;
    }

    public int picture() {
        state(pictures.size() < 10);
        int[] greys = new int[cells.size()];
        for (int i = 0; i < greys.length; i++) {
            greys[i] = grey(cells.get(i).direction, plates);
        }
        pictures.add(new Picture(plates, greys));
        return pictures.size() - 1;
    }

    public int now() {
        return now;
    }

    public int told(int x, int y, int what) {
        Cell cell = cell(x, y);
        argument(in(what, 0, 4));
        int pixel = cell.pixel == null ? -1 : cell.pixel.number;
        return new int[] {cell.direction, cell.kind, pixel, grey(cell.direction, plates),
            energyOf(List.of(cell))}[what];
    }

    public int energy() {
        return energyAnew();
    }

    public int energyAnew() {
        return energyOf(cells);
    }

    public int spent(boolean isHeat) {
        return isHeat ? heat : work;
    }

    public int least(int x, int y, boolean right) {
        Cell one = cell(x, y);
        Cell other = right ? cell(x + 1, y) : cell(x, y + 1);
        int ownOne = one.direction;
        int ownOther = other.direction;
        int least = Integer.MAX_VALUE;
        for (int a = 0; a < 15; a++) {
            for (int b = 0; b < 15; b++) {
                one.direction = one.kind == 1 ? ownOne : a;
                other.direction = other.kind == 1 ? ownOther : b;
                least = Math.min(least, energyOf(List.of(one, other)));
            }
        }
        one.direction = ownOne;
        other.direction = ownOther;
        return least;
    }

    public int winding(int x, int y) {
        cell(x, y);
        cell(x + 1, y + 1);
        int[] ring = {cell(x, y).direction, cell(x + 1, y).direction, cell(x + 1, y + 1).direction,
            cell(x, y + 1).direction};
        return around(ring);
    }

    private static int around(int[] ring) {
        int sum = 0;
        for (int i = 0; i < ring.length; i++) {
            sum += on(ring[(i + ring.length - 1) % ring.length], ring[i]);
        }
        return sum / 15;
    }

    public int within(int x, int y, int toX, int toY) {
        cell(x, y);
        cell(toX, toY);
        argument(toX > x && toY > y);
        int sum = 0;
        for (Cell cell : cells) {
            sum += in(cell.x, x, toX - 1) && in(cell.y, y, toY - 1) ? winding(cell.x, cell.y) : 0;
        }
        return sum;
    }

    public int border(int x, int y, int toX, int toY) {
        cell(x, y);
        cell(toX, toY);
        argument(toX > x && toY > y);
        List<Integer> ring = new ArrayList<>();
        for (int i = x; i <= toX; i++) {
            ring.add(cell(i, y).direction);
        }
        for (int j = y + 1; j <= toY; j++) {
            ring.add(cell(toX, j).direction);
        }
        for (int i = toX - 1; i >= x; i--) {
            ring.add(cell(i, toY).direction);
        }
        for (int j = toY - 1; j > y; j--) {
            ring.add(cell(x, j).direction);
        }
        int[] directions = new int[ring.size()];
        for (int i = 0; i < directions.length; i++) {
            directions[i] = ring.get(i);
        }
        return around(directions);
    }

    private List<Cell> places() {
        List<Cell> places = new ArrayList<>();
        for (Cell cell : cells) {
            if (cell.x < width - 1 && cell.y < height - 1 && winding(cell.x, cell.y) != 0) {
                places.add(cell);
            }
        }
        return places;
    }

    public int defects() {
        return places().size();
    }

    public int defect(int defect, int what) {
        inside(in(defect, 0, defects() - 1));
        argument(in(what, 0, 2));
        Cell cell = places().get(defect);
        return new int[] {cell.x, cell.y, winding(cell.x, cell.y)}[what];
    }

    public int ofPixel(int pixel, int what) {
        Pixel asked = pixelOf(pixel);
        argument(in(what, 0, 4));
        int sum = 0;
        boolean isGood = true;
        for (Cell cell : asked.cells) {
            sum += grey(cell.direction, plates);
            for (Cell place : places()) {
                isGood &= !(in(cell.x - place.x, 0, 1) && in(cell.y - place.y, 0, 1));
            }
        }
        int most = 0;
        int least = asked.noted.isEmpty() ? 0 : 99;
        for (int i = Math.max(0, asked.noted.size() - 8); i < asked.noted.size(); i++) {
            most = Math.max(most, asked.noted.get(i));
            least = Math.min(least, asked.noted.get(i));
        }
        return new int[] {sum / asked.cells.size(), most - least, isGood ? 1 : 0, asked.direction,
            asked.strength}[what];
    }

    public int pictured(int picture, int x, int y) {
        Picture asked = pictureOf(picture);
        return asked.greys[cells.indexOf(cell(x, y))];
    }

    public int ghosts(int picture) {
        Picture asked = pictureOf(picture);
        int ghosts = 0;
        for (int i = 0; i < cells.size(); i++) {
            ghosts += grey(cells.get(i).direction, asked.plates) == asked.greys[i] ? 0 : 1;
        }
        return ghosts;
    }

    public int guesses(int picture, int x, int y) {
        Picture asked = pictureOf(picture);
        int grey = pictured(picture, x, y);
        int guesses = 0;
        for (int direction = 0; direction < 15; direction++) {
            guesses += grey(direction, asked.plates) == grey ? 1 : 0;
        }
        return guesses;
    }
}
