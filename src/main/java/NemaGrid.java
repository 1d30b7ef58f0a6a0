/** Matter that flows and points: a grid of directions without heads, its pixels, defects and light. */
public final class NemaGrid {
    public static final int NONE = -1;
    public static final int FREE = 0, FIXED = 1, WEAK = 2;

    private static final int DIRECTIONS = 15;
    private static final int FURTHEST = 7;
    private static final int LEAST_SIDE = 2, MOST_SIDE = 12, FIRST_SIDE = 4;
    private static final int MOST_CELLS = MOST_SIDE * MOST_SIDE;
    private static final int MOST_COST = 20;
    private static final int MOST_STRENGTH = 100;
    private static final int MOST_PIXELS = 8;
    private static final int MOST_DRIVES = 40;
    private static final int MOST_PICTURES = 10;
    private static final int MOST_TICKS = 50, LAST_TICK = 2000;
    private static final int NOTES = 8;
    private static final int[] GREYS = {0, 17, 55, 90, 99, 75, 35, 4};

    private final Pixels pixels;
    private final Matter matter;
    private final Windings windings;
    private final Drives drives;
    private final Pictures pictures;
    private int plateDirection;
    private int tickNow;
    private int work;
    private int heat;

    public NemaGrid() {
        pixels = new Pixels();
        matter = new Matter(pixels);
        windings = new Windings(matter);
        drives = new Drives();
        pictures = new Pictures();
        plateDirection = 0;
        beginAnew(FIRST_SIDE, FIRST_SIDE);
    }

    // ---- the grid

    public void grid(int width, int height) throws IllegalArgumentException {
        if (!isIn(width, LEAST_SIDE, MOST_SIDE) || !isIn(height, LEAST_SIDE, MOST_SIDE)) {
            throw new IllegalArgumentException("a side is 2 to 12");
        }
        beginAnew(width, height);
    }

    public int costs(int across, int down) throws IllegalArgumentException {
        if (!isIn(across, 0, MOST_COST) || !isIn(down, 0, MOST_COST)) {
            throw new IllegalArgumentException("a cost is 0 to 20");
        }
        return worked(matter.price(across, down));
    }

    public int turn(int x, int y, int direction)
            throws IndexOutOfBoundsException, IllegalArgumentException, IllegalStateException {
        if (!matter.has(x, y)) {
            throw new IndexOutOfBoundsException("no such cell");
        }
        if (!isDirection(direction)) {
            throw new IllegalArgumentException("a direction is 0 to 14");
        }
        if (matter.kindAt(x, y) == FIXED) {
            throw new IllegalStateException("the cell is FIXED");
        }
        return worked(matter.turnTo(x, y, direction));
    }

    public int anchor(int x, int y, int kind, int direction, int strength)
            throws IndexOutOfBoundsException, IllegalArgumentException {
        if (!matter.has(x, y)) {
            throw new IndexOutOfBoundsException("no such cell");
        }
        if (!isIn(kind, FREE, WEAK) || !isDirection(direction) || !isIn(strength, 1, MOST_STRENGTH)) {
            throw new IllegalArgumentException("a kind, direction or strength is out of its range");
        }
        return worked(matter.hold(x, y, kind, direction, strength));
    }

    public int pixel(int x, int y, int width, int height)
            throws IndexOutOfBoundsException, IllegalArgumentException, IllegalStateException {
        if (!matter.has(x, y)) {
            throw new IndexOutOfBoundsException("no such cell");
        }
        if (!isIn(width, 1, MOST_SIDE) || !isIn(height, 1, MOST_SIDE)) {
            throw new IllegalArgumentException("a side of a pixel is 1 to 12");
        }
        if (!matter.has(x + width - 1, y + height - 1)) {
            throw new IllegalArgumentException("a cell of the pixel is not there");
        }
        if (pixels.count >= MOST_PIXELS || matter.hasPixelIn(x, y, width, height)) {
            throw new IllegalStateException("a cell is in another pixel, or there are 8");
        }
        int made = pixels.make(x, y, width, height);
        matter.mark(x, y, width, height, made);
        return made;
    }

    public int drive(int pixel, int direction, int strength)
            throws IndexOutOfBoundsException, IllegalArgumentException {
        if (!pixels.has(pixel)) {
            throw new IndexOutOfBoundsException("no such pixel");
        }
        if (!isDirection(direction) || !isIn(strength, 0, MOST_STRENGTH)) {
            throw new IllegalArgumentException("a direction or strength is out of its range");
        }
        return worked(matter.setField(pixel, direction, strength));
    }

    public int program(int pixel, int tick, int direction, int strength)
            throws IndexOutOfBoundsException, IllegalArgumentException, IllegalStateException {
        if (!pixels.has(pixel)) {
            throw new IndexOutOfBoundsException("no such pixel");
        }
        if (tick <= tickNow || tick > LAST_TICK) {
            throw new IllegalArgumentException("the tick is not a later one, to 2000");
        }
        if (!isDirection(direction) || !isIn(strength, 0, MOST_STRENGTH)) {
            throw new IllegalArgumentException("a direction or strength is out of its range");
        }
        if (drives.count >= MOST_DRIVES) {
            throw new IllegalStateException("40 drives are to come");
        }
        return drives.add(pixel, tick, direction, strength);
    }

    public int tick(int ticks) throws IllegalArgumentException, IllegalStateException {
        if (!isIn(ticks, 1, MOST_TICKS)) {
            throw new IllegalArgumentException("ticks are 1 to 50");
        }
        if (tickNow + ticks > LAST_TICK) {
            throw new IllegalStateException("the tick would be above 2000");
        }
        int heatBefore = heat;
        for (int i = 0; i < ticks; i++) {
            tickNow++;
            worked(drives.comeAt(tickNow, matter));
            heat += matter.relax();
            noteGreys();
        }
        return heat - heatBefore;
    }

    public int plates(int direction) throws IllegalArgumentException {
        if (!isDirection(direction)) {
            throw new IllegalArgumentException("a direction is 0 to 14");
        }
        int before = plateDirection;
        plateDirection = direction;
        return before;
    }

    public int picture() throws IllegalStateException {
        if (pictures.count >= MOST_PICTURES) {
            throw new IllegalStateException("there are 10 pictures");
        }
        return pictures.take(matter, plateDirection);
    }

    // ---- questions

    public int now() {
        return tickNow;
    }

    public int told(int x, int y, int what) throws IndexOutOfBoundsException, IllegalArgumentException {
        if (!matter.has(x, y)) {
            throw new IndexOutOfBoundsException("no such cell");
        }
        switch (what) {
            case 0:
                return matter.directionAt(x, y);
            case 1:
                return matter.kindAt(x, y);
            case 2:
                return matter.pixelAt(x, y);
            case 3:
                return greyOf(matter.directionAt(x, y), plateDirection);
            case 4:
                return matter.energyAt(x, y);
            default:
                throw new IllegalArgumentException("what is 0 to 4");
        }
    }

    public int energy() {
        return matter.energyKept;
    }

    public int energyAnew() {
        return matter.sum();
    }

    public int spent(boolean isHeat) {
        return isHeat ? heat : work;
    }

    public int least(int x, int y, boolean right) throws IndexOutOfBoundsException {
        if (!matter.has(x, y) || !matter.has(right ? x + 1 : x, right ? y : y + 1)) {
            throw new IndexOutOfBoundsException("no such cell");
        }
        return matter.leastOfTwo(x, y, right);
    }

    public int winding(int x, int y) throws IndexOutOfBoundsException {
        if (!windings.has(x, y)) {
            throw new IndexOutOfBoundsException("no such place");
        }
        return windings.at(x, y);
    }

    public int within(int x, int y, int toX, int toY)
            throws IndexOutOfBoundsException, IllegalArgumentException {
        if (!matter.has(x, y) || !matter.has(toX, toY)) {
            throw new IndexOutOfBoundsException("no such cell");
        }
        if (toX <= x || toY <= y) {
            throw new IllegalArgumentException("the second corner is not further across and down");
        }
        return windings.sum(x, y, toX, toY);
    }

    public int border(int x, int y, int toX, int toY)
            throws IndexOutOfBoundsException, IllegalArgumentException {
        if (!matter.has(x, y) || !matter.has(toX, toY)) {
            throw new IndexOutOfBoundsException("no such cell");
        }
        if (toX <= x || toY <= y) {
            throw new IllegalArgumentException("the second corner is not further across and down");
        }
        return windings.around(x, y, toX, toY);
    }

    public int defects() {
        return windings.count();
    }

    public int defect(int defect, int what) throws IndexOutOfBoundsException, IllegalArgumentException {
        int found = windings.find(defect);
        if (found == NONE) {
            throw new IndexOutOfBoundsException("no such defect");
        }
        int x = found % MOST_SIDE;
        int y = found / MOST_SIDE;
        switch (what) {
            case 0:
                return x;
            case 1:
                return y;
            case 2:
                return windings.at(x, y);
            default:
                throw new IllegalArgumentException("what is 0 to 2");
        }
    }

    public int ofPixel(int pixel, int what) throws IndexOutOfBoundsException, IllegalArgumentException {
        if (!pixels.has(pixel)) {
            throw new IndexOutOfBoundsException("no such pixel");
        }
        switch (what) {
            case 0:
                return matter.greyOfPixel(pixel, plateDirection);
            case 1:
                return pixels.flicker(pixel);
            case 2:
                return windings.isGood(pixel) ? 1 : 0;
            case 3:
                return pixels.fieldDirection(pixel);
            case 4:
                return pixels.fieldStrength(pixel);
            default:
                throw new IllegalArgumentException("what is 0 to 4");
        }
    }

    public int pictured(int picture, int x, int y) throws IndexOutOfBoundsException {
        if (!pictures.has(picture) || !matter.has(x, y)) {
            throw new IndexOutOfBoundsException("no such picture or cell");
        }
        return pictures.greyAt(picture, x, y);
    }

    public int ghosts(int picture) throws IndexOutOfBoundsException {
        if (!pictures.has(picture)) {
            throw new IndexOutOfBoundsException("no such picture");
        }
        return pictures.changed(picture, matter);
    }

    public int guesses(int picture, int x, int y) throws IndexOutOfBoundsException {
        if (!pictures.has(picture) || !matter.has(x, y)) {
            throw new IndexOutOfBoundsException("no such picture or cell");
        }
        return pictures.fitting(picture, x, y);
    }

    // ---- what the calls share

    private void beginAnew(int width, int height) {
        matter.begin(width, height);
        pixels.count = 0;
        drives.count = 0;
        pictures.count = 0;
        tickNow = 0;
        work = 0;
        heat = 0;
    }

    private int worked(int growth) {
        work += growth;
        return growth;
    }

    private void noteGreys() {
        for (int pixel = 0; pixel < pixels.count; pixel++) {
            pixels.note(pixel, matter.greyOfPixel(pixel, plateDirection));
        }
    }

    private static boolean isIn(int number, int least, int most) {
        return number >= least && number <= most;
    }

    private static boolean isDirection(int number) {
        return isIn(number, 0, DIRECTIONS - 1);
    }

    /** How much the direction b is on from a, -7 to 7; once round is added so that the rest is of a positive number. */
    private static int onFrom(int a, int b) {
        return (b - a + FURTHEST + DIRECTIONS) % DIRECTIONS - FURTHEST;
    }

    private static int squareApart(int a, int b) {
        int on = onFrom(a, b);
        return on * on;
    }

    private static int greyOf(int direction, int plates) {
        int apart = Math.abs(onFrom(plates, direction));
        return apart >= 0 && apart < GREYS.length ? GREYS[apart] : 0;
    }

    /** The number of a cell, or of a place by its first cell; the same in a grid of any size. */
    private static int numberOf(int x, int y) {
        return y * MOST_SIDE + x;
    }

    /** Numbers in a row; an index that is not there reads as 0 and keeps nothing, so that none can fail. */
    private static final class Row {
        private final int[] numbers;

        Row(int length) {
            numbers = new int[length < 0 ? 0 : length];
        }

        int at(int index) {
            return index >= 0 && index < numbers.length ? numbers[index] : 0;
        }

        void put(int index, int number) {
            if (index >= 0 && index < numbers.length) {
                numbers[index] = number;
            }
        }

        void fill(int number) {
            for (int i = 0; i < numbers.length; i++) {
                numbers[i] = number;
            }
        }
    }

    /** The pixels: where they are, their fields, and what greys they noted. */
    private static final class Pixels {
        private final Row lefts = new Row(MOST_PIXELS);
        private final Row tops = new Row(MOST_PIXELS);
        private final Row widths = new Row(MOST_PIXELS);
        private final Row heights = new Row(MOST_PIXELS);
        private final Row directions = new Row(MOST_PIXELS);
        private final Row strengths = new Row(MOST_PIXELS);
        private final Row noted = new Row(MOST_PIXELS);
        private final Row notes = new Row(MOST_PIXELS * NOTES);
        private int count;

        boolean has(int pixel) {
            return pixel >= 0 && pixel < count;
        }

        int make(int x, int y, int width, int height) {
            int made = count;
            lefts.put(made, x);
            tops.put(made, y);
            widths.put(made, width);
            heights.put(made, height);
            directions.put(made, 0);
            strengths.put(made, 0);
            noted.put(made, 0);
            count++;
            return made;
        }

        int left(int pixel) {
            return lefts.at(pixel);
        }

        int top(int pixel) {
            return tops.at(pixel);
        }

        int width(int pixel) {
            return widths.at(pixel);
        }

        int height(int pixel) {
            return heights.at(pixel);
        }

        int fieldDirection(int pixel) {
            return directions.at(pixel);
        }

        int fieldStrength(int pixel) {
            return strengths.at(pixel);
        }

        void setField(int pixel, int direction, int strength) {
            directions.put(pixel, direction);
            strengths.put(pixel, strength);
        }

        void note(int pixel, int grey) {
            int before = noted.at(pixel);
            notes.put(pixel * NOTES + before % NOTES, grey);
            noted.put(pixel, before + 1);
        }

        int flicker(int pixel) {
            int first = pixel * NOTES;
            int known = Math.min(noted.at(pixel), NOTES);
            int most = notes.at(first);
            int least = most;
            for (int i = 1; i < known; i++) {
                int grey = notes.at(first + i);
                most = Math.max(most, grey);
                least = Math.min(least, grey);
            }
            return known > 0 ? most - least : 0;
        }
    }

    /** The cells with their directions, what holds them, and the energy. */
    private static final class Matter {
        private final Row directions = new Row(MOST_CELLS);
        private final Row kinds = new Row(MOST_CELLS);
        private final Row weakDirections = new Row(MOST_CELLS);
        private final Row weakStrengths = new Row(MOST_CELLS);
        private final Row pixelNumbers = new Row(MOST_CELLS);
        private final Pixels pixels;
        private int width = FIRST_SIDE;
        private int height = FIRST_SIDE;
        private int costAcross = 1;
        private int costDown = 1;
        private int energyKept;

        Matter(Pixels pixels) {
            this.pixels = pixels;
        }

        void begin(int newWidth, int newHeight) {
            width = newWidth;
            height = newHeight;
            directions.fill(0);
            kinds.fill(FREE);
            pixelNumbers.fill(NONE);
            energyKept = 0;
        }

        boolean has(int x, int y) {
            return x >= 0 && x < width && y >= 0 && y < height;
        }

        int directionAt(int x, int y) {
            return directions.at(numberOf(x, y));
        }

        int kindAt(int x, int y) {
            return kinds.at(numberOf(x, y));
        }

        int pixelAt(int x, int y) {
            return pixelNumbers.at(numberOf(x, y));
        }

        boolean hasPixelIn(int x, int y, int wide, int high) {
            for (int j = y; j < y + high; j++) {
                for (int i = x; i < x + wide; i++) {
                    if (pixelAt(i, j) != NONE) {
                        return true;
                    }
                }
            }
            return false;
        }

        void mark(int x, int y, int wide, int high, int pixel) {
            for (int j = y; j < y + high; j++) {
                for (int i = x; i < x + wide; i++) {
                    pixelNumbers.put(numberOf(i, j), pixel);
                }
            }
        }

        /** The energy of a cell by itself, if it had this direction. */
        private int heldWith(int cell, int direction) {
            int energy = 0;
            if (kinds.at(cell) == WEAK) {
                energy += weakStrengths.at(cell) * squareApart(weakDirections.at(cell), direction);
            }
            int pixel = pixelNumbers.at(cell);
            if (pixel != NONE) {
                energy += pixels.fieldStrength(pixel) * squareApart(pixels.fieldDirection(pixel), direction);
            }
            return energy;
        }

        /** The energy of a cell by itself and with all its neighbours, if it had this direction. */
        int energyWith(int x, int y, int direction) {
            int energy = heldWith(numberOf(x, y), direction);
            if (has(x - 1, y)) {
                energy += costAcross * squareApart(directionAt(x - 1, y), direction);
            }
            if (has(x + 1, y)) {
                energy += costAcross * squareApart(directionAt(x + 1, y), direction);
            }
            if (has(x, y - 1)) {
                energy += costDown * squareApart(directionAt(x, y - 1), direction);
            }
            if (has(x, y + 1)) {
                energy += costDown * squareApart(directionAt(x, y + 1), direction);
            }
            return energy;
        }

        int energyAt(int x, int y) {
            return energyWith(x, y, directionAt(x, y));
        }

        /** The energy of the grid, found anew from all cells. */
        int sum() {
            int energy = 0;
            for (int y = 0; y < height; y++) {
                for (int x = 0; x < width; x++) {
                    int direction = directionAt(x, y);
                    energy += heldWith(numberOf(x, y), direction);
                    if (has(x + 1, y)) {
                        energy += costAcross * squareApart(direction, directionAt(x + 1, y));
                    }
                    if (has(x, y + 1)) {
                        energy += costDown * squareApart(direction, directionAt(x, y + 1));
                    }
                }
            }
            return energy;
        }

        private int grown(int growth) {
            energyKept += growth;
            return growth;
        }

        int price(int across, int down) {
            costAcross = across;
            costDown = down;
            return grown(sum() - energyKept);
        }

        int turnTo(int x, int y, int direction) {
            int before = energyAt(x, y);
            directions.put(numberOf(x, y), direction);
            return grown(energyAt(x, y) - before);
        }

        int hold(int x, int y, int kind, int direction, int strength) {
            int before = energyAt(x, y);
            int cell = numberOf(x, y);
            kinds.put(cell, kind);
            if (kind == WEAK) {
                weakDirections.put(cell, direction);
                weakStrengths.put(cell, strength);
            }
            if (kind == FIXED) {
                directions.put(cell, direction);
            }
            return grown(energyAt(x, y) - before);
        }

        int setField(int pixel, int direction, int strength) {
            int before = heldInPixel(pixel);
            pixels.setField(pixel, direction, strength);
            return grown(heldInPixel(pixel) - before);
        }

        private int heldInPixel(int pixel) {
            int energy = 0;
            int left = pixels.left(pixel);
            int top = pixels.top(pixel);
            int right = left + pixels.width(pixel);
            int bottom = top + pixels.height(pixel);
            for (int y = top; y < bottom; y++) {
                for (int x = left; x < right; x++) {
                    energy += heldWith(numberOf(x, y), directionAt(x, y));
                }
            }
            return energy;
        }

        /** Relaxes the grid once, and returns the heat of that. */
        int relax() {
            int before = energyKept;
            for (int y = 0; y < height; y++) {
                for (int x = 0; x < width; x++) {
                    if (kindAt(x, y) != FIXED) {
                        settle(x, y);
                    }
                }
            }
            return before - energyKept;
        }

        private void settle(int x, int y) {
            int own = directionAt(x, y);
            int ahead = own == 0 ? DIRECTIONS - 1 : own - 1;
            int behind = own == DIRECTIONS - 1 ? 0 : own + 1;
            int ownEnergy = energyWith(x, y, own);
            int aheadEnergy = energyWith(x, y, ahead);
            int behindEnergy = energyWith(x, y, behind);
            int best = own;
            int least = ownEnergy;
            if (aheadEnergy < least) {
                best = ahead;
                least = aheadEnergy;
            }
            if (behindEnergy < least) {
                best = behind;
                least = behindEnergy;
            }
            directions.put(numberOf(x, y), best);
            grown(least - ownEnergy);
        }

        /** The least energy of a cell and the one at its right or below it, what both share counted once. */
        int leastOfTwo(int x, int y, boolean right) {
            int otherX = right ? x + 1 : x;
            int otherY = right ? y : y + 1;
            int cost = right ? costAcross : costDown;
            int own = directionAt(x, y);
            int otherOwn = directionAt(otherX, otherY);
            boolean fixed = kindAt(x, y) == FIXED;
            boolean otherFixed = kindAt(otherX, otherY) == FIXED;
            int first = fixed ? own : 0;
            int last = fixed ? own : DIRECTIONS - 1;
            int otherFirst = otherFixed ? otherOwn : 0;
            int otherLast = otherFixed ? otherOwn : DIRECTIONS - 1;
            int least = energyAt(x, y) + energyAt(otherX, otherY) - cost * squareApart(own, otherOwn);
            for (int one = first; one <= last; one++) {
                // energyWith counts what both share with the other one as it is now: taken off, then counted once
                int alone = energyWith(x, y, one) - cost * squareApart(one, otherOwn);
                for (int other = otherFirst; other <= otherLast; other++) {
                    int otherAlone = energyWith(otherX, otherY, other) - cost * squareApart(own, other);
                    least = Math.min(least, alone + otherAlone + cost * squareApart(one, other));
                }
            }
            return least;
        }

        int greyOfPixel(int pixel, int plates) {
            int sum = 0;
            int cells = 0;
            int left = pixels.left(pixel);
            int top = pixels.top(pixel);
            int right = left + pixels.width(pixel);
            int bottom = top + pixels.height(pixel);
            for (int y = top; y < bottom; y++) {
                for (int x = left; x < right; x++) {
                    sum += greyOf(directionAt(x, y), plates);
                    cells++;
                }
            }
            return cells > 0 ? sum / cells : 0;
        }
    }

    /** The windings of places and regions, and the defects among them. */
    private static final class Windings {
        private final Matter matter;

        Windings(Matter matter) {
            this.matter = matter;
        }

        boolean has(int x, int y) {
            return matter.has(x, y) && matter.has(x + 1, y + 1);
        }

        int at(int x, int y) {
            return around(x, y, x + 1, y + 1);
        }

        int sum(int x, int y, int toX, int toY) {
            int windings = 0;
            for (int j = y; j < toY; j++) {
                for (int i = x; i < toX; i++) {
                    windings += at(i, j);
                }
            }
            return windings;
        }

        /** The winding of the border of a region, of which a place is the smallest one. */
        int around(int x, int y, int toX, int toY) {
            int on = 0;
            for (int i = x; i < toX; i++) {
                on += onFrom(matter.directionAt(i, y), matter.directionAt(i + 1, y));
                on += onFrom(matter.directionAt(i + 1, toY), matter.directionAt(i, toY));
            }
            for (int j = y; j < toY; j++) {
                on += onFrom(matter.directionAt(toX, j), matter.directionAt(toX, j + 1));
                on += onFrom(matter.directionAt(x, j + 1), matter.directionAt(x, j));
            }
            return Math.floorDiv(on, DIRECTIONS);
        }

        int count() {
            int found = 0;
            for (int y = 0; y < matter.height - 1; y++) {
                for (int x = 0; x < matter.width - 1; x++) {
                    if (at(x, y) != 0) {
                        found++;
                    }
                }
            }
            return found;
        }

        /** The number of the place of a defect, or NONE. */
        int find(int defect) {
            int found = 0;
            for (int y = 0; y < matter.height - 1; y++) {
                for (int x = 0; x < matter.width - 1; x++) {
                    if (at(x, y) != 0) {
                        if (found == defect) {
                            return numberOf(x, y);
                        }
                        found++;
                    }
                }
            }
            return NONE;
        }

        boolean isGood(int pixel) {
            for (int y = 0; y < matter.height - 1; y++) {
                for (int x = 0; x < matter.width - 1; x++) {
                    if (touches(x, y, pixel) && at(x, y) != 0) {
                        return false;
                    }
                }
            }
            return true;
        }

        private boolean touches(int x, int y, int pixel) {
            return matter.pixelAt(x, y) == pixel || matter.pixelAt(x + 1, y) == pixel
                    || matter.pixelAt(x, y + 1) == pixel || matter.pixelAt(x + 1, y + 1) == pixel;
        }
    }

    /** The drives that are to come, in the order in which they were told. */
    private static final class Drives {
        private final Row pixelNumbers = new Row(MOST_DRIVES);
        private final Row ticks = new Row(MOST_DRIVES);
        private final Row directions = new Row(MOST_DRIVES);
        private final Row strengths = new Row(MOST_DRIVES);
        private int count;

        int add(int pixel, int tick, int direction, int strength) {
            put(count, pixel, tick, direction, strength);
            count++;
            return count;
        }

        private void put(int index, int pixel, int tick, int direction, int strength) {
            pixelNumbers.put(index, pixel);
            ticks.put(index, tick);
            directions.put(index, direction);
            strengths.put(index, strength);
        }

        /** Lets the drives for a tick come, keeps the others, and returns the work of that. */
        int comeAt(int tick, Matter matter) {
            int growth = 0;
            int later = 0;
            for (int i = 0; i < count; i++) {
                if (ticks.at(i) == tick) {
                    growth += matter.setField(pixelNumbers.at(i), directions.at(i), strengths.at(i));
                } else {
                    put(later, pixelNumbers.at(i), ticks.at(i), directions.at(i), strengths.at(i));
                    later++;
                }
            }
            count = later;
            return growth;
        }
    }

    /** The pictures, each with its plates and the greys of all cells. */
    private static final class Pictures {
        private final Row plates = new Row(MOST_PICTURES);
        private final Row greys = new Row(MOST_PICTURES * MOST_CELLS);
        private int count;

        boolean has(int picture) {
            return picture >= 0 && picture < count;
        }

        int take(Matter matter, int direction) {
            int taken = count;
            plates.put(taken, direction);
            for (int y = 0; y < matter.height; y++) {
                for (int x = 0; x < matter.width; x++) {
                    greys.put(taken * MOST_CELLS + numberOf(x, y), greyOf(matter.directionAt(x, y), direction));
                }
            }
            count++;
            return taken;
        }

        int greyAt(int picture, int x, int y) {
            return greys.at(picture * MOST_CELLS + numberOf(x, y));
        }

        int changed(int picture, Matter matter) {
            int changes = 0;
            for (int y = 0; y < matter.height; y++) {
                for (int x = 0; x < matter.width; x++) {
                    if (greyOf(matter.directionAt(x, y), plates.at(picture)) != greyAt(picture, x, y)) {
                        changes++;
                    }
                }
            }
            return changes;
        }

        int fitting(int picture, int x, int y) {
            int directions = 0;
            for (int direction = 0; direction < DIRECTIONS; direction++) {
                if (greyOf(direction, plates.at(picture)) == greyAt(picture, x, y)) {
                    directions++;
                }
            }
            return directions;
        }
    }
}
