/** A sheet that is folded flat: ../shared/DOC.md says what each call promises, and what its words mean. */
public final class Creasebook {
    private static final int NONE = -1;
    private static final int MOST_CELLS = 32;
    private static final int MOST_WIDE = 8;
    private static final int MOST_FOLDS = 8;
    private static final int LEAST_CODE = 8;
    private static final int MOST_CODE = 63;

    private static final int VALLEY = 1;
    private static final int MOUNTAIN = 2;
    private static final int DRY = 1;
    private static final int WET = 2;

    private final Paper paper = new Paper();
    private final Form form = new Form();
    /** How it would lie: one Form for all questions, so that none makes a new one. */
    private final Form trial = new Form();
    /** How it lay ahead of each FOLD that there is, and the CODE of that FOLD. */
    private final Form[] past = new Form[MOST_FOLDS];
    private final int[] pastCode = new int[MOST_FOLDS];
    private int folds;
    private int blots;
    private int refusals;

    public Creasebook() {
        for (int i = 0; i < past.length; i++) {
            past[i] = new Form();
        }
        begin(1, 1);
    }

    // ---- what is done

    public int sheet(int wide, int high) throws IllegalArgumentException {
        if (wide < 1 || wide > MOST_WIDE || high < 1 || high > MOST_WIDE) {
            throw new IllegalArgumentException("WIDE and HIGH are 1 to 8");
        }
        if (wide * high > MOST_CELLS) {
            throw new IllegalArgumentException("there are 32 CELLS at most");
        }
        begin(wide, high);
        return paper.cells;
    }

    public int fold(int axis, int line, boolean isFar, boolean isOver)
            throws IllegalArgumentException, IllegalStateException {
        requireLine(axis, line);
        if (folds >= MOST_FOLDS) {
            throw new IllegalStateException("there are 8 FOLDS");
        }
        int code = codeOf(axis, line, isFar, isOver);
        Form before = past[folds];
        before.copyFrom(form);
        pastCode[folds] = code;
        folds++;
        blots += spreadInk(code);
        int creased = creaseAlong(code);
        form.becomeFolded(before, code);
        return creased;
    }

    public int unfold() {
        if (folds < 1 || isHeldByGlue()) {
            refusals++;
            return NONE;
        }
        paper.smoothCreasesOf(folds);
        folds--;
        form.copyFrom(past[folds]);
        return folds;
    }

    public int turn() {
        form.turnOver();
        return form.frontsSeenFromAbove();
    }

    public int round() {
        form.turnRound();
        return form.highestAt(0, 0);
    }

    public boolean ink(int x, int y) throws IndexOutOfBoundsException {
        requirePlace(x, y);
        return paper.wet(outerSide(form.highestAt(x, y), true));
    }

    public int dry() {
        return paper.dryAll();
    }

    public int punch(int x, int y) throws IndexOutOfBoundsException {
        requirePlace(x, y);
        for (int cell = 0; cell < paper.cells; cell++) {
            if (form.liesAt(cell, x, y)) {
                paper.holes[cell]++;
            }
        }
        return form.heightAt(x, y);
    }

    public int glue(int x, int y) throws IndexOutOfBoundsException {
        requirePlace(x, y);
        int fresh = 0;
        for (int layer = 1; layer < form.heightAt(x, y); layer++) {
            int lower = form.cellAt(x, y, layer - 1);
            int upper = form.cellAt(x, y, layer);
            if (!paper.areGlued(lower, upper)) {
                paper.stick(lower, upper);
                fresh++;
            }
        }
        return fresh;
    }

    // ---- what is asked

    public int ofPlace(int x, int y, int what) throws IndexOutOfBoundsException, IllegalArgumentException {
        requirePlace(x, y);
        requireWhat(what, 6);
        switch (what) {
            case 0:
                return form.heightAt(x, y);
            case 1:
                return form.highestAt(x, y);
            case 2:
                return numberOf(form.isFrontUp(form.highestAt(x, y)));
            case 3:
                return form.cellAt(x, y, 0);
            case 4:
                return numberOf(form.isFrontUp(form.cellAt(x, y, 0)));
            case 5:
                return holesAt(x, y);
            default:
                return gluedAt(x, y);
        }
    }

    public int at(int x, int y, int layer) throws IndexOutOfBoundsException {
        requirePlace(x, y);
        if (layer < 0 || layer >= form.heightAt(x, y)) {
            throw new IndexOutOfBoundsException("there is no such LAYER");
        }
        return form.cellAt(x, y, layer);
    }

    public int ofCell(int cell, int what) throws IndexOutOfBoundsException, IllegalArgumentException {
        requireCell(cell);
        requireWhat(what, 7);
        switch (what) {
            case 0:
                return form.column[cell];
            case 1:
                return form.row[cell];
            case 2:
                return form.layer[cell];
            case 3:
                return numberOf(form.isFrontUp(cell));
            case 4:
                return paper.holes[cell];
            case 5:
                return paper.ink[sideOf(cell, true)];
            case 6:
                return paper.ink[sideOf(cell, false)];
            default:
                return paper.creasesOf(cell);
        }
    }

    public int ofPair(int cell, boolean isDown, int what) throws IndexOutOfBoundsException, IllegalArgumentException {
        requireCell(cell);
        requireWhat(what, 1);
        if (paper.cellBeside(cell, isDown) == NONE) {
            return NONE;
        }
        int pair = pairOf(cell, isDown);
        return what == 0 ? paper.crease[pair] : paper.marks[pair];
    }

    public int ofCorner(int x, int y, int what) throws IndexOutOfBoundsException, IllegalArgumentException {
        if (x < 1 || x >= paper.wide || y < 1 || y >= paper.high) {
            throw new IndexOutOfBoundsException("there is no such CORNER");
        }
        requireWhat(what, 2);
        int upperLeft = paper.wide * (y - 1) + x - 1;
        return paper.tellPair(pairOf(upperLeft, false), what)
                + paper.tellPair(pairOf(upperLeft + paper.wide, false), what)
                + paper.tellPair(pairOf(upperLeft, true), what)
                + paper.tellPair(pairOf(upperLeft + 1, true), what);
    }

    public int many(int what) throws IllegalArgumentException {
        requireWhat(what, 15);
        switch (what) {
            case 0:
                return paper.wide;
            case 1:
                return paper.high;
            case 2:
                return form.columns;
            case 3:
                return form.rows;
            case 4:
                return folds;
            case 5:
                return paper.countCreases(VALLEY);
            case 6:
                return paper.countCreases(MOUNTAIN);
            case 7:
                return paper.sumOfMarks();
            case 8:
                return paper.countSides(WET);
            case 9:
                return paper.countSides(DRY);
            case 10:
                return paper.sumOfHoles();
            case 11:
                return form.highestPile();
            case 12:
                return form.frontsSeenFromAbove();
            case 13:
                return form.frontsSeenFromBelow();
            case 14:
                return blots;
            default:
                return refusals;
        }
    }

    public double weight(int axis) throws IllegalArgumentException {
        if (axis != 0 && axis != 1) {
            throw new IllegalArgumentException("AXIS is 0 or 1");
        }
        int sum = 0;
        for (int cell = 0; cell < paper.cells; cell++) {
            sum += axis == 0 ? form.column[cell] : form.row[cell];
        }
        return nearestOfTwoTheEven(4 * sum, paper.cells) / 4.0;
    }

    // ---- what would be (nothing is changed)

    public int would(int axis, int line, boolean isFar, boolean isOver, int what) throws IllegalArgumentException {
        requireLine(axis, line);
        requireWhat(what, 3);
        int code = codeOf(axis, line, isFar, isOver);
        if (what == 3) {
            return countBlots(code);
        }
        trial.becomeFolded(form, code);
        if (what == 0) {
            return trial.highestPile();
        }
        return what == 1 ? trial.places() : trial.frontsSeenFromAbove();
    }

    public int bestFold() {
        int best = NONE;
        int bestPlaces = 0;
        int bestFronts = 0;
        for (int code = LEAST_CODE; code <= MOST_CODE; code++) {
            if (form.hasLine(axisOf(code), lineOf(code))) {
                trial.becomeFolded(form, code);
                int places = trial.places();
                int fronts = trial.frontsSeenFromAbove();
                if (best == NONE || places < bestPlaces
                        || (places == bestPlaces && fronts > bestFronts)) {
                    best = code;
                    bestPlaces = places;
                    bestFronts = fronts;
                }
            }
        }
        return best;
    }

    public int bring(int lower, int upper) throws IndexOutOfBoundsException, IllegalArgumentException {
        requireCell(lower);
        requireCell(upper);
        if (lower == upper) {
            throw new IllegalArgumentException("both CELLS are the same");
        }
        if (form.isJustUpon(lower, upper)) {
            return 0;
        }
        for (int code = LEAST_CODE; code <= MOST_CODE; code++) {
            if (form.hasLine(axisOf(code), lineOf(code))) {
                trial.becomeFolded(form, code);
                if (trial.isJustUpon(lower, upper)) {
                    return code;
                }
            }
        }
        return NONE;
    }

    public int fewest() {
        return halvings(form.columns) + halvings(form.rows);
    }

    public long digest() {
        long d = 58302;
        for (int what = 0; what <= 15; what++) {
            d = d * 31 + many(what);
        }
        for (int cell = 0; cell < paper.cells; cell++) {
            d = digestOfCell(d, cell);
        }
        for (int y = 0; y < form.rows; y++) {
            for (int x = 0; x < form.columns; x++) {
                d = digestOfPlace(d, x, y);
            }
        }
        d = d * 31 + bestFold();
        d = d * 31 + fewest();
        return paper.cells > 1 ? d * 31 + bring(0, 1) : d;
    }

    // ---- what the calls above share

    private void begin(int wide, int high) {
        paper.renew(wide, high);
        form.spread(wide, high);
        folds = 0;
        blots = 0;
        refusals = 0;
    }

    private void requireLine(int axis, int line) {
        if (!form.hasLine(axis, line)) {
            throw new IllegalArgumentException("there is no such AXIS or LINE");
        }
    }

    private void requirePlace(int x, int y) {
        if (!form.hasPlace(x, y)) {
            throw new IndexOutOfBoundsException("there is no such PLACE");
        }
    }

    private void requireCell(int cell) {
        if (!paper.hasCell(cell)) {
            throw new IndexOutOfBoundsException("there is no such CELL");
        }
    }

    private static void requireWhat(int what, int most) {
        if (what < 0 || what > most) {
            throw new IllegalArgumentException("nothing is asked by this number");
        }
    }

    private int creaseAlong(int code) {
        int creased = 0;
        for (int cell = 0; cell < paper.cells; cell++) {
            if (creasePair(cell, false, code)) {
                creased++;
            }
            if (creasePair(cell, true, code)) {
                creased++;
            }
        }
        return creased;
    }

    private boolean creasePair(int cell, boolean isDown, int code) {
        int other = paper.cellBeside(cell, isDown);
        int pair = pairOf(cell, isDown);
        if (other == NONE || paper.crease[pair] != 0 || !form.isLineBetween(cell, other, code)) {
            return false;
        }
        int goer = form.goes(cell, code) ? cell : other;
        int kind = form.isFrontUp(goer) == isOver(code) ? VALLEY : MOUNTAIN;
        paper.press(pair, kind, folds);
        return true;
    }

    private int spreadInk(int code) {
        int spread = 0;
        for (int cell = 0; cell < paper.cells; cell++) {
            int met = cellThatMeets(cell, code);
            if (isBlot(cell, met, code)) {
                paper.wet(outerSide(cell, isOver(code)));
                paper.wet(outerSide(met, isOver(code)));
                spread++;
            }
        }
        return spread;
    }

    private int countBlots(int code) {
        int count = 0;
        for (int cell = 0; cell < paper.cells; cell++) {
            if (isBlot(cell, cellThatMeets(cell, code), code)) {
                count++;
            }
        }
        return count;
    }

    /** The CELL that this one, if it goes as the outer one of its PILE, comes to touch; otherwise NONE. */
    private int cellThatMeets(int cell, int code) {
        boolean isOver = isOver(code);
        if (!form.goes(cell, code) || !form.isOutermost(cell, isOver)) {
            return NONE;
        }
        int x = form.mirroredColumn(cell, code);
        int y = form.mirroredRow(cell, code);
        return isOver ? form.highestAt(x, y) : form.cellAt(x, y, 0);
    }

    private boolean isBlot(int cell, int met, int code) {
        if (met == NONE) {
            return false;
        }
        boolean isOver = isOver(code);
        return paper.isWet(outerSide(cell, isOver)) != paper.isWet(outerSide(met, isOver));
    }

    /** The side of a CELL that is up, or the one that is down. */
    private int outerSide(int cell, boolean isUpper) {
        return sideOf(cell, form.isFrontUp(cell) == isUpper);
    }

    private boolean isHeldByGlue() {
        Form before = past[folds - 1];
        int code = pastCode[folds - 1];
        for (int a = 0; a < paper.cells; a++) {
            for (int b = 0; b < paper.cells; b++) {
                if (paper.areGlued(a, b) && before.goes(a, code) && !before.goes(b, code)) {
                    return true;
                }
            }
        }
        return false;
    }

    private int holesAt(int x, int y) {
        int sum = 0;
        for (int cell = 0; cell < paper.cells; cell++) {
            if (form.liesAt(cell, x, y)) {
                sum += paper.holes[cell];
            }
        }
        return sum;
    }

    private int gluedAt(int x, int y) {
        int count = 0;
        for (int layer = 1; layer < form.heightAt(x, y); layer++) {
            if (paper.areGlued(form.cellAt(x, y, layer - 1), form.cellAt(x, y, layer))) {
                count++;
            }
        }
        return count;
    }

    private long digestOfCell(long start, int cell) {
        long d = start;
        for (int what = 0; what <= 7; what++) {
            d = d * 31 + ofCell(cell, what);
        }
        d = d * 31 + ofPair(cell, false, 0);
        d = d * 31 + ofPair(cell, false, 1);
        d = d * 31 + ofPair(cell, true, 0);
        return d * 31 + ofPair(cell, true, 1);
    }

    private long digestOfPlace(long start, int x, int y) {
        long d = start;
        for (int what = 0; what <= 6; what++) {
            d = d * 31 + ofPlace(x, y, what);
        }
        return d;
    }

    private static int nearestOfTwoTheEven(int dividend, int divisor) {
        if (divisor < 1) {
            return 0;
        }
        int whole = dividend / divisor;
        int twiceTheRest = 2 * (dividend % divisor);
        boolean isNearerAbove = twiceTheRest > divisor || (twiceTheRest == divisor && whole % 2 != 0);
        return isNearerAbove ? whole + 1 : whole;
    }

    /** A FOLD leaves at the least the half of a length, and AXES do not hinder each other. */
    private static int halvings(int length) {
        int count = 0;
        for (int left = length; left > 1; left -= left / 2) {
            count++;
        }
        return count;
    }

    private static int numberOf(boolean is) {
        return is ? 1 : 0;
    }

    private static int codeOf(int axis, int line, boolean isFar, boolean isOver) {
        return 8 * line + 4 * axis + 2 * numberOf(isFar) + numberOf(isOver);
    }

    private static int lineOf(int code) {
        return code / 8;
    }

    private static int axisOf(int code) {
        return code / 4 % 2;
    }

    private static boolean isFar(int code) {
        return code / 2 % 2 == 1;
    }

    private static boolean isOver(int code) {
        return code % 2 == 1;
    }

    private static int pairOf(int cell, boolean isDown) {
        return 2 * cell + numberOf(isDown);
    }

    private static int sideOf(int cell, boolean isFront) {
        return 2 * cell + numberOf(isFront);
    }

    /** What belongs to the SHEET however it lies. */
    private static final class Paper {
        private int wide;
        private int high;
        private int cells;
        /** By pairOf(): the CREASE, the number of the FOLD that made it, the MARKS. */
        private final int[] crease = new int[2 * MOST_CELLS];
        private final int[] creasedBy = new int[2 * MOST_CELLS];
        private final int[] marks = new int[2 * MOST_CELLS];
        /** By sideOf(). */
        private final int[] ink = new int[2 * MOST_CELLS];
        private final int[] holes = new int[MOST_CELLS];
        /** Bit b of glued[a] is set as a and b are glued: 32 CELLS are just the bits of an int. */
        private final int[] glued = new int[MOST_CELLS];

        private void renew(int newWide, int newHigh) {
            wide = newWide;
            high = newHigh;
            cells = newWide * newHigh;
            for (int i = 0; i < 2 * MOST_CELLS; i++) {
                crease[i] = 0;
                creasedBy[i] = 0;
                marks[i] = 0;
                ink[i] = 0;
            }
            for (int i = 0; i < MOST_CELLS; i++) {
                holes[i] = 0;
                glued[i] = 0;
            }
        }

        private boolean hasCell(int cell) {
            return cell >= 0 && cell < cells;
        }

        private int cellBeside(int cell, boolean isDown) {
            if (isDown) {
                return hasCell(cell + wide) ? cell + wide : NONE;
            }
            boolean isLastOfRow = wide < 1 || cell % wide == wide - 1;
            return isLastOfRow ? NONE : cell + 1;
        }

        private void press(int pair, int kind, int fold) {
            crease[pair] = kind;
            creasedBy[pair] = fold;
            marks[pair]++;
        }

        private void smoothCreasesOf(int fold) {
            for (int pair = 0; pair < 2 * cells; pair++) {
                if (creasedBy[pair] == fold) {
                    crease[pair] = 0;
                    creasedBy[pair] = 0;
                }
            }
        }

        private int creasesOf(int cell) {
            int count = 0;
            for (int first = 0; first < cells; first++) {
                if (crease[pairOf(first, false)] != 0 && (first == cell || cellBeside(first, false) == cell)) {
                    count++;
                }
                if (crease[pairOf(first, true)] != 0 && (first == cell || cellBeside(first, true) == cell)) {
                    count++;
                }
            }
            return count;
        }

        /** What a PAIR adds to the answer for its CORNER. */
        private int tellPair(int pair, int what) {
            if (what == 0) {
                return numberOf(crease[pair] != 0);
            }
            if (what == 1) {
                return numberOf(crease[pair] == MOUNTAIN) - numberOf(crease[pair] == VALLEY);
            }
            return numberOf(marks[pair] > 0);
        }

        private int countCreases(int kind) {
            int count = 0;
            for (int pair = 0; pair < 2 * cells; pair++) {
                if (crease[pair] == kind) {
                    count++;
                }
            }
            return count;
        }

        private int sumOfMarks() {
            int sum = 0;
            for (int pair = 0; pair < 2 * cells; pair++) {
                sum += marks[pair];
            }
            return sum;
        }

        private boolean isWet(int side) {
            return side >= 0 && side < 2 * cells && ink[side] == WET;
        }

        private boolean wet(int side) {
            boolean isNew = side >= 0 && side < 2 * cells && ink[side] != WET;
            if (isNew) {
                ink[side] = WET;
            }
            return isNew;
        }

        private int dryAll() {
            int dried = 0;
            for (int side = 0; side < 2 * cells; side++) {
                if (isWet(side)) {
                    ink[side] = DRY;
                    dried++;
                }
            }
            return dried;
        }

        private int countSides(int state) {
            int count = 0;
            for (int side = 0; side < 2 * cells; side++) {
                if (ink[side] == state) {
                    count++;
                }
            }
            return count;
        }

        private int sumOfHoles() {
            int sum = 0;
            for (int cell = 0; cell < cells; cell++) {
                sum += holes[cell];
            }
            return sum;
        }

        private boolean areGlued(int a, int b) {
            return hasCell(a) && hasCell(b) && (glued[a] >>> b & 1) == 1;
        }

        private void stick(int a, int b) {
            if (hasCell(a) && hasCell(b)) {
                glued[a] |= 1 << b;
                glued[b] |= 1 << a;
            }
        }
    }

    /** How the CELLS lie at one time. */
    private static final class Form {
        private int cells;
        private int columns;
        private int rows;
        private final int[] column = new int[MOST_CELLS];
        private final int[] row = new int[MOST_CELLS];
        private final int[] layer = new int[MOST_CELLS];
        private final boolean[] isUp = new boolean[MOST_CELLS];
        /** Of the PILE of each PLACE, row by row: no PLACE is empty, so there are not more PLACES than CELLS. */
        private final int[] height = new int[MOST_CELLS];

        private void spread(int wide, int high) {
            cells = wide * high;
            columns = wide;
            rows = high;
            for (int y = 0; y < high; y++) {
                for (int x = 0; x < wide; x++) {
                    int cell = wide * y + x;
                    column[cell] = x;
                    row[cell] = y;
                    layer[cell] = 0;
                    isUp[cell] = true;
                }
            }
            measurePiles();
        }

        private void copyFrom(Form other) {
            cells = other.cells;
            columns = other.columns;
            rows = other.rows;
            for (int i = 0; i < MOST_CELLS; i++) {
                column[i] = other.column[i];
                row[i] = other.row[i];
                layer[i] = other.layer[i];
                isUp[i] = other.isUp[i];
                height[i] = other.height[i];
            }
        }

        private void becomeFolded(Form before, int code) {
            boolean isOfColumns = axisOf(code) == 0;
            int length = isOfColumns ? before.columns : before.rows;
            int line = lineOf(code);
            int least = isFar(code) ? Math.min(0, 2 * line - length) : line;
            int newLength = Math.max(line, length - line);
            cells = before.cells;
            columns = isOfColumns ? newLength : before.columns;
            rows = isOfColumns ? before.rows : newLength;
            for (int cell = 0; cell < cells; cell++) {
                boolean goes = before.goes(cell, code);
                int x = goes ? before.mirroredColumn(cell, code) : before.column[cell];
                int y = goes ? before.mirroredRow(cell, code) : before.row[cell];
                column[cell] = isOfColumns ? x - least : x;
                row[cell] = isOfColumns ? y : y - least;
                layer[cell] = before.layerBehind(cell, code);
                isUp[cell] = before.isUp[cell] != goes;
            }
            measurePiles();
        }

        private int layerBehind(int cell, int code) {
            boolean goes = goes(cell, code);
            int inOwnPile = goes ? layerFromAbove(cell) : layer[cell];
            boolean isUpperPile = goes == isOver(code);
            int below = isUpperPile ? heightAt(mirroredColumn(cell, code), mirroredRow(cell, code)) : 0;
            return below + inOwnPile;
        }

        private void turnOver() {
            for (int cell = 0; cell < cells; cell++) {
                layer[cell] = layerFromAbove(cell);
                column[cell] = columns - 1 - column[cell];
                isUp[cell] = !isUp[cell];
            }
            measurePiles();
        }

        private void turnRound() {
            for (int cell = 0; cell < cells; cell++) {
                column[cell] = columns - 1 - column[cell];
                row[cell] = rows - 1 - row[cell];
            }
            measurePiles();
        }

        private void measurePiles() {
            for (int place = 0; place < MOST_CELLS; place++) {
                height[place] = 0;
            }
            for (int cell = 0; cell < cells; cell++) {
                if (hasPlace(column[cell], row[cell])) {
                    height[columns * row[cell] + column[cell]]++;
                }
            }
        }

        private int places() {
            return columns * rows;
        }

        private boolean hasPlace(int x, int y) {
            return x >= 0 && x < columns && y >= 0 && y < rows;
        }

        private boolean hasLine(int axis, int line) {
            if (axis != 0 && axis != 1) {
                return false;
            }
            return line >= 1 && line < (axis == 0 ? columns : rows);
        }

        private int heightAt(int x, int y) {
            return hasPlace(x, y) ? height[columns * y + x] : 0;
        }

        private boolean liesAt(int cell, int x, int y) {
            return column[cell] == x && row[cell] == y;
        }

        private int cellAt(int x, int y, int wantedLayer) {
            for (int cell = 0; cell < cells; cell++) {
                if (liesAt(cell, x, y) && layer[cell] == wantedLayer) {
                    return cell;
                }
            }
            return NONE;
        }

        private int highestAt(int x, int y) {
            return cellAt(x, y, heightAt(x, y) - 1);
        }

        private int layerFromAbove(int cell) {
            return heightAt(column[cell], row[cell]) - 1 - layer[cell];
        }

        private boolean isOutermost(int cell, boolean isAbove) {
            return (isAbove ? layerFromAbove(cell) : layer[cell]) == 0;
        }

        private boolean isFrontUp(int cell) {
            return cell >= 0 && cell < cells && isUp[cell];
        }

        private boolean isJustUpon(int lower, int upper) {
            return liesAt(upper, column[lower], row[lower]) && layer[upper] == layer[lower] + 1;
        }

        private boolean goes(int cell, int code) {
            int along = axisOf(code) == 0 ? column[cell] : row[cell];
            return isFar(code) == along >= lineOf(code);
        }

        private int mirroredColumn(int cell, int code) {
            return axisOf(code) == 0 ? 2 * lineOf(code) - 1 - column[cell] : column[cell];
        }

        private int mirroredRow(int cell, int code) {
            return axisOf(code) == 1 ? 2 * lineOf(code) - 1 - row[cell] : row[cell];
        }

        /** Only the COLUMNS (ROWS) just beside a LINE are mirrored into each other and beside each other. */
        private boolean isLineBetween(int cell, int other, int code) {
            int x = column[cell] - column[other];
            int y = row[cell] - row[other];
            return x * x + y * y == 1 && liesAt(other, mirroredColumn(cell, code), mirroredRow(cell, code));
        }

        private int highestPile() {
            int highest = 0;
            for (int place = 0; place < MOST_CELLS; place++) {
                highest = Math.max(highest, height[place]);
            }
            return highest;
        }

        private int frontsSeenFromAbove() {
            int count = 0;
            for (int cell = 0; cell < cells; cell++) {
                if (isUp[cell] && isOutermost(cell, true)) {
                    count++;
                }
            }
            return count;
        }

        private int frontsSeenFromBelow() {
            int count = 0;
            for (int cell = 0; cell < cells; cell++) {
                if (!isUp[cell] && isOutermost(cell, false)) {
                    count++;
                }
            }
            return count;
        }
    }
}
