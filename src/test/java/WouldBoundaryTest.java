import java.math.BigInteger;
import java.util.ArrayList;
import java.util.List;

/** Promises 18 to 22, what would be: each boundary that a sentence of them names, and what is answered there. */
public final class WouldBoundaryTest {
    private static final int NONE = -1;
    private static final boolean NEAR = false;
    private static final boolean FAR = true;
    private static final boolean UNDER = false;
    private static final boolean OVER = true;
    private static final boolean[] BOTH = {false, true};
    private static final Class<?> WRONG = IllegalArgumentException.class;
    private static final Class<?> INDEX = IndexOutOfBoundsException.class;
    private static final int LOW = Integer.MIN_VALUE;
    private static final int TOP = Integer.MAX_VALUE;

    public static void main(String[] args) {
        promise18EachLine();
        promise18OneMoreThanEight();
        promise18WhatIsNot();
        promise18LinesThatAreNot();
        promise19NoLine();
        promise19EachSizeFrontsUp();
        promise19EachSizeFrontsDown();
        promise19LeastThenMostThenSmallest();
        promise19OneMoreThanEight();
        promise20NowIsNought();
        promise20SmallestCode();
        promise20None();
        promise20OneMoreThanEight();
        promise20CellsThatAreNot();
        promise21EachSize();
        promise21OnePlace();
        promise21MoreThanEight();
        promise22OneCell();
        promise22EachSize();
        promise22WrapsAround();
        nothingIsChanged();
        Check.end("WouldBoundaryTest");
    }

    private static void promise18EachLine() {
        for (int[] size : Sheets.sizes()) {
            for (int axis = 0; axis < 2; axis++) {
                for (int line = 1; line < size[axis]; line++) {
                    for (boolean isFar : BOTH) {
                        oneLine(size, axis, line, isFar, OVER);
                        oneLine(size, axis, line, isFar, UNDER);
                    }
                }
            }
        }
    }

    private static void oneLine(int[] size, int axis, int line, boolean isFar, boolean isOver) {
        Creasebook book = Sheets.sheet(size[0], size[1]);
        book.ink(0, 0);
        book.ink(size[0] - 1, size[1] - 1);
        int length = size[axis];
        int across = size[1 - axis];
        int going = isFar ? length - line : line;
        int fronts = isOver ? Math.max(0, length - 2 * going) : length - going;
        int[] due = {2, Math.max(line, length - line) * across, fronts * across,
            isOver ? blotsOfBothEnds(length, across, line) : 0};
        String words = "would() of " + size[0] + " by " + size[1] + " at " + line + " of AXIS " + axis + ", ";
        for (int what = 0; what < 4; what++) {
            Check.same(words + what, book.would(axis, line, isFar, isOver, what), due[what]);
        }
        book.fold(axis, line, isFar, isOver);
        int[] is = {book.many(11), book.many(2) * book.many(3), book.many(12), book.many(14)};
        for (int what = 0; what < 4; what++) {
            Check.same(words + what + ", done", is[what], due[what]);
        }
    }

    /** The first CELL and the last one are WET: each BLOTS if there is a CELL that it comes to, which is not WET. */
    private static int blotsOfBothEnds(int length, int across, int line) {
        if (across == 1 && 2 * line == length) {
            return 0;
        }
        int ofFirst = 2 * line - 1 < length ? 1 : 0;
        int ofLast = 2 * line - length >= 0 ? 1 : 0;
        return ofFirst + ofLast;
    }

    private static void promise18OneMoreThanEight() {
        Creasebook book = Sheets.eightFolds();
        for (boolean isFar : BOTH) {
            for (boolean isOver : BOTH) {
                Check.same("24 CELLS upon each other", book.would(1, 1, isFar, isOver, 0), 24);
                Check.same("one PLACE", book.would(1, 1, isFar, isOver, 1), 1);
            }
        }
        Check.same("FOLDS stay", book.many(4), 8);
        book.ink(0, 0);
        Check.same("BLOTS of a ninth one", book.would(1, 1, NEAR, OVER, 3), 1);
        Check.same("BLOTS of a ninth one UNDER", book.would(1, 1, NEAR, UNDER, 3), 0);
        book.ink(0, 1);
        Check.same("BLOTS as both are WET", book.would(1, 1, FAR, OVER, 3), 0);
        int[] up = {book.ofPlace(0, 0, 4), book.ofPlace(0, 1, 4), book.ofPlace(0, 0, 2), book.ofPlace(0, 1, 2)};
        Check.same("FRONT of a ninth one NEAR, OVER", book.would(1, 1, NEAR, OVER, 2), 1 - up[0]);
        Check.same("FRONT of a ninth one FAR, OVER", book.would(1, 1, FAR, OVER, 2), 1 - up[1]);
        Check.same("FRONT of a ninth one FAR, UNDER", book.would(1, 1, FAR, UNDER, 2), up[2]);
        Check.same("FRONT of a ninth one NEAR, UNDER", book.would(1, 1, NEAR, UNDER, 2), up[3]);
    }

    private static int[] not(int bound) {
        return new int[] {LOW, LOW + 1, -bound, -1, bound, bound + 1, 1 << 8, 1 << 16, 1 << 29, 1 << 30, TOP - 1, TOP};
    }

    private static void promise18WhatIsNot() {
        for (Creasebook book : new Creasebook[] {Sheets.sheet(1, 2), Sheets.eightFolds()}) {
            for (int what : not(4)) {
                for (boolean isFar : BOTH) {
                    Check.refuses("would() of " + what, book, WRONG, () -> book.would(1, 1, isFar, OVER, what));
                    Check.refuses("would() of " + what, book, WRONG, () -> book.would(1, 1, isFar, UNDER, what));
                }
            }
        }
    }

    private static void promise18LinesThatAreNot() {
        for (int[] size : Sheets.sizes()) {
            for (int what : new int[] {-1, 0, 1, 2, 3, 4}) {
                Creasebook book = Sheets.sheet(size[0], size[1]);
                for (int line : not(size[0])) {
                    Check.refuses("LINE " + line, book, WRONG, () -> book.would(0, line, NEAR, OVER, what));
                }
                for (int line : not(size[1])) {
                    Check.refuses("LINE " + line, book, WRONG, () -> book.would(1, line, FAR, UNDER, what));
                }
                for (int axis : not(2)) {
                    Check.refuses("AXIS " + axis, book, WRONG, () -> book.would(axis, 1, NEAR, OVER, what));
                }
                Check.refuses("LINE 0", book, WRONG, () -> book.would(0, 0, NEAR, OVER, what));
                Check.refuses("LINE 0", book, WRONG, () -> book.would(1, 0, FAR, OVER, what));
            }
        }
        Creasebook folded = Sheets.sheet(8, 1);
        folded.fold(0, 4, NEAR, OVER);
        Check.same("the last LINE of 4", folded.would(0, 3, FAR, OVER, 1), 3);
        Check.refuses("a LINE that was", folded, WRONG, () -> folded.would(0, 4, FAR, OVER, 1));
        Creasebook one = Sheets.onePile();
        Check.refuses("no LINE of one PLACE", one, WRONG, () -> one.would(0, 1, NEAR, OVER, 0));
        Check.refuses("no LINE of one PLACE", one, WRONG, () -> one.would(1, 1, NEAR, OVER, 0));
    }

    private static void promise19NoLine() {
        Check.same("NONE, if there is no LINE", new Creasebook().bestFold(), NONE);
        Creasebook full = Sheets.onePile();
        Check.same("NONE of one PILE", full.bestFold(), NONE);
        full.turn();
        Check.same("NONE of one PILE, turned", full.bestFold(), NONE);
        full.unfold();
        Check.same("two PLACES, one LINE", full.bestFold() / 4, 8 / 4 + 1);
    }

    /** Fewest PLACES by a half; NEAR (the less half) and UNDER, all that is seen has its FRONT up. */
    private static void promise19EachSizeFrontsUp() {
        for (int[] size : Sheets.sizes()) {
            int columns = size[0] / 2 * 8;
            int rows = size[1] / 2 * 8 + 4;
            Check.same("FRONTS up, " + size[0] + " by " + size[1], Sheets.sheet(size[0], size[1]).bestFold(),
                    lessPlaces(size, columns, rows));
        }
    }

    /** FRONTS that are down come up with the part that goes OVER: the greater half, if they are not as great. */
    private static void promise19EachSizeFrontsDown() {
        for (int[] size : Sheets.sizes()) {
            int columns = size[0] / 2 * 8 + (size[0] % 2 == 0 ? 1 : 3);
            int rows = size[1] / 2 * 8 + (size[1] % 2 == 0 ? 5 : 7);
            Creasebook book = Sheets.sheet(size[0], size[1]);
            book.turn();
            Check.same("FRONTS down, " + size[0] + " by " + size[1], book.bestFold(),
                    lessPlaces(size, columns, rows));
        }
    }

    private static int lessPlaces(int[] size, int columns, int rows) {
        if (size[0] == 1 && size[1] == 1) {
            return NONE;
        }
        int byColumns = size[0] == 1 ? 1000 : (size[0] + 1) / 2 * size[1];
        int byRows = size[1] == 1 ? 1000 : (size[1] + 1) / 2 * size[0];
        if (byColumns == byRows) {
            return Math.min(columns, rows);
        }
        return byColumns < byRows ? columns : rows;
    }

    private static void promise19LeastThenMostThenSmallest() {
        Creasebook book = Sheets.sheet(3, 1);
        book.fold(0, 1, NEAR, OVER);
        Check.same("two PLACES", Sheets.lies(book), "1 0', 2");
        Check.same("FRONT of 1, 0 or 2: NEAR OVER shows 1'; NEAR UNDER shows 2", book.bestFold(), 8);
        book.turn();
        Check.same("turned", Sheets.lies(book), "2', 0 1'");
        Check.same("NEAR OVER shows FRONT of 2, NEAR UNDER shows 1'", book.bestFold(), 9);
        book.sheet(3, 1);
        book.turn();
        book.fold(0, 2, NEAR, UNDER);
        Check.same("two PLACES", Sheets.lies(book), "1 0', 2");
        book.fold(0, 1, FAR, UNDER);
        Check.same("one PLACE", book.bestFold(), NONE);
        book.sheet(2, 4);
        Check.same("4 PLACES by either AXIS, all FRONTS: the smaller CODE", book.bestFold(), 8);
        book.sheet(4, 2);
        Check.same("4 PLACES by either AXIS, all FRONTS: the smaller CODE", book.bestFold(), 12);
        book.sheet(3, 3);
        Check.same("6 PLACES by either AXIS, all FRONTS: the smaller CODE", book.bestFold(), 8);
    }

    private static void promise19OneMoreThanEight() {
        Check.same("no FRONT by any: the smallest CODE", Sheets.eightFolds().bestFold(), 12);
        Check.same("FRONT by NEAR, UNDER alone", eightFoldsWith(1, NEAR).bestFold(), 12);
        Check.same("FRONT by NEAR, OVER alone", eightFoldsWith(1, FAR).bestFold(), 13);
        Check.same("FRONT by FAR, UNDER alone", eightFoldsWith(2, FAR).bestFold(), 14);
        Check.same("FRONT by FAR, OVER alone", eightFoldsWith(2, NEAR).bestFold(), 15);
    }

    /** Three PILES, lowest and highest of each with FRONT up; then one of them is folded over upon the next one. */
    private static Creasebook eightFoldsWith(int line, boolean isFar) {
        Creasebook book = Sheets.sheet(8, 3);
        for (int i = 0; i < 6; i++) {
            book.fold(0, 1, NEAR, OVER);
        }
        book.fold(0, 1, NEAR, UNDER);
        book.fold(1, line, isFar, OVER);
        Check.same("FOLDS", book.many(4), 8);
        return book;
    }

    private static void promise20NowIsNought() {
        Creasebook book = Sheets.sheet(3, 1);
        book.fold(0, 2, NEAR, OVER);
        Check.same("folded", Sheets.lies(book), "2 1', 0'");
        Check.same("1 lies just upon 2 now", book.bring(2, 1), 0);
        Check.same("2 does not lie upon 1 now", book.bring(1, 2), 8);
        book.turn();
        Check.same("2 lies just upon 1, as it is turned", book.bring(1, 2), 0);
        Creasebook full = Sheets.onePile();
        for (int layer = 0; layer < 31; layer++) {
            int lower = full.at(0, 0, layer);
            int upper = full.at(0, 0, layer + 1);
            Check.same("just upon the one of LAYER " + layer, full.bring(lower, upper), 0);
            Check.same("the other way round, without a LINE", full.bring(upper, lower), NONE);
        }
        Check.same("two LAYERS apart", full.bring(full.at(0, 0, 0), full.at(0, 0, 2)), NONE);
        Check.same("from the lowest one to the highest one", full.bring(full.at(0, 0, 0), full.at(0, 0, 31)), NONE);
    }

    private static void promise20SmallestCode() {
        for (int axis = 0; axis < 2; axis++) {
            Creasebook book = Sheets.strip(axis, 8);
            for (int lower = 0; lower < 8; lower++) {
                for (int upper = 0; upper < 8; upper++) {
                    int line = (lower + upper + 1) / 2;
                    boolean isBetween = (lower + upper) % 2 == 1;
                    int due = isBetween ? 8 * line + 4 * axis + (lower < upper ? 0 : 1) : NONE;
                    if (lower != upper) {
                        Check.same("bring(" + lower + ", " + upper + ")", book.bring(lower, upper), due);
                    }
                }
            }
        }
    }

    private static void promise20None() {
        Creasebook two = Sheets.sheet(2, 2);
        Check.same("across a corner", two.bring(0, 3), NONE);
        Check.same("across a corner", two.bring(1, 2), NONE);
        Check.same("by a side of the row", two.bring(0, 1), 8);
        Check.same("by a side of the column", two.bring(0, 2), 12);
        Creasebook book = Sheets.sheet(3, 1);
        Check.same("an even number of COLUMNS apart", book.bring(0, 2), NONE);
        book.fold(0, 1, NEAR, OVER);
        Check.same("folded", Sheets.lies(book), "1 0', 2");
        Check.same("2 comes upon 0 or below 1, never upon 1", book.bring(1, 2), 8);
        Check.same("0 comes upon 2, turned", book.bring(2, 0), 9);
        Check.same("1 upon 2: it is the lower one of its PILE", book.bring(2, 1), 10);
        Check.same("2 upon 0", book.bring(0, 2), 11);
        book.fold(0, 1, NEAR, OVER);
        Check.same("one PLACE", Sheets.lies(book), "2 0 1'");
        Check.same("without a LINE", book.bring(2, 1), NONE);
    }

    private static void promise20OneMoreThanEight() {
        Creasebook book = Sheets.eightFolds();
        int[] low = {book.ofPlace(0, 0, 3), book.ofPlace(0, 1, 3)};
        int[] high = {book.ofPlace(0, 0, 1), book.ofPlace(0, 1, 1)};
        Check.same("a ninth one NEAR, UNDER", book.bring(low[0], low[1]), 12);
        Check.same("a ninth one NEAR, OVER", book.bring(high[1], high[0]), 13);
        Check.same("a ninth one FAR, UNDER", book.bring(low[1], low[0]), 14);
        Check.same("a ninth one FAR, OVER", book.bring(high[0], high[1]), 15);
        Check.same("FOLDS stay", book.many(4), 8);
    }

    private static void promise20CellsThatAreNot() {
        for (int[] size : Sheets.sizes()) {
            Creasebook book = Sheets.sheet(size[0], size[1]);
            int last = size[0] * size[1] - 1;
            for (int wrong : not(last + 1)) {
                Check.refuses("lower is " + wrong, book, INDEX, () -> book.bring(wrong, 0));
                Check.refuses("lower is " + wrong, book, INDEX, () -> book.bring(wrong, last));
                Check.refuses("upper is " + wrong, book, INDEX, () -> book.bring(0, wrong));
                Check.refuses("upper is " + wrong, book, INDEX, () -> book.bring(last, wrong));
                Check.refuses("both are, ahead of both the same", book, INDEX, () -> book.bring(wrong, wrong));
            }
            Check.refuses("both are the first CELL", book, WRONG, () -> book.bring(0, 0));
            Check.refuses("both are the last CELL", book, WRONG, () -> book.bring(last, last));
        }
    }

    private static void promise21EachSize() {
        int[] halvings = {0, 1, 2, 2, 3, 3, 3, 3};
        for (int[] size : Sheets.sizes()) {
            Creasebook book = Sheets.sheet(size[0], size[1]);
            int due = halvings[size[0] - 1] + halvings[size[1] - 1];
            Check.same("fewest() of " + size[0] + " by " + size[1], book.fewest(), due);
            int folds = 0;
            while (book.bestFold() != NONE && folds < 8) {
                boolean isOfColumns = book.many(2) > 1;
                int length = isOfColumns ? book.many(2) : book.many(3);
                book.fold(isOfColumns ? 0 : 1, length / 2, NEAR, OVER);
                folds++;
                Check.same("one less behind each half", book.fewest(), due - folds);
            }
            Check.same("so many FOLDS do it", folds, due);
        }
    }

    private static void promise21OnePlace() {
        Check.same("0, if it is one PLACE", new Creasebook().fewest(), 0);
        Creasebook full = Sheets.onePile();
        Check.same("0, if it is one PLACE", full.fewest(), 0);
        full.glue(0, 0);
        full.turn();
        Check.same("glue does not hinder a FOLD", full.fewest(), 0);
        Creasebook glued = Sheets.sheet(4, 1);
        glued.fold(0, 2, NEAR, OVER);
        glued.glue(0, 0);
        Check.same("glue does not hinder a FOLD", glued.fewest(), 1);
    }

    private static void promise21MoreThanEight() {
        Creasebook book = Sheets.sheet(8, 4);
        for (int i = 0; i < 6; i++) {
            book.fold(0, 1, NEAR, OVER);
        }
        for (int i = 0; i < 2; i++) {
            book.unfold();
            book.fold(0, 1, FAR, UNDER);
        }
        Check.same("6 FOLDS, 2 by 4 are left", book.fewest(), 3);
        Creasebook many = Sheets.sheet(4, 8);
        for (int i = 0; i < 2; i++) {
            many.fold(0, 1, NEAR, OVER);
        }
        for (int i = 0; i < 6; i++) {
            many.fold(1, 1, NEAR, OVER);
        }
        Check.same("8 FOLDS, as if there could be more", many.fewest(), 2);
    }

    /** An object made anew by the same calls, however often: so that none is used for too many calls. */
    private interface Maker {
        Creasebook make();
    }

    /** What digest() is made of, one by one, in numbers that do not wrap around. */
    private static BigInteger unwrapped(Maker maker) {
        List<Integer> numbers = new ArrayList<>();
        Creasebook book = maker.make();
        for (int what = 0; what <= 15; what++) {
            numbers.add(book.many(what));
        }
        int cells = book.many(0) * book.many(1);
        addCells(numbers, maker.make(), cells);
        addPlaces(numbers, maker.make());
        numbers.add(book.bestFold());
        numbers.add(book.fewest());
        if (cells > 1) {
            numbers.add(book.bring(0, 1));
        }
        BigInteger d = BigInteger.valueOf(58302);
        for (int number : numbers) {
            d = d.multiply(BigInteger.valueOf(31)).add(BigInteger.valueOf(number));
        }
        return d;
    }

    private static void addCells(List<Integer> numbers, Creasebook book, int cells) {
        for (int cell = 0; cell < cells; cell++) {
            for (int what = 0; what <= 7; what++) {
                numbers.add(book.ofCell(cell, what));
            }
            numbers.add(book.ofPair(cell, false, 0));
            numbers.add(book.ofPair(cell, false, 1));
            numbers.add(book.ofPair(cell, true, 0));
            numbers.add(book.ofPair(cell, true, 1));
        }
    }

    private static void addPlaces(List<Integer> numbers, Creasebook book) {
        int columns = book.many(2);
        int rows = book.many(3);
        for (int y = 0; y < rows; y++) {
            for (int x = 0; x < columns; x++) {
                for (int what = 0; what <= 6; what++) {
                    numbers.add(book.ofPlace(x, y, what));
                }
            }
        }
    }

    private static void digest(String words, Maker maker) {
        Check.same("digest() of " + words, maker.make().digest(), unwrapped(maker).longValue());
    }

    private static void promise22OneCell() {
        digest("one CELL: there is no CELL 1", () -> new Creasebook());
        digest("two CELLS: there is a CELL 1", () -> Sheets.sheet(2, 1));
        digest("two CELLS: there is a CELL 1", () -> Sheets.sheet(1, 2));
    }

    private static void promise22EachSize() {
        for (int[] size : Sheets.sizes()) {
            for (int folds = 0; folds <= 2; folds++) {
                int done = folds;
                digest(size[0] + " by " + size[1] + ", " + folds, () -> inUse(size, done));
            }
        }
    }

    private static Creasebook inUse(int[] size, int folds) {
        Creasebook book = Sheets.sheet(size[0], size[1]);
        book.unfold();
        book.ink(0, 0);
        for (int axis = 0; axis < folds; axis++) {
            if (size[axis] > 1) {
                book.fold(axis, size[axis] - 1, NEAR, OVER);
            }
            book.punch(0, 0);
            book.glue(0, 0);
            book.dry();
            book.ink(0, 0);
        }
        return book;
    }

    private static Creasebook punched(int kind, int times) {
        Creasebook[] kinds = {new Creasebook(), Sheets.onePile(), Sheets.eightFolds()};
        for (int i = 0; i < times; i++) {
            kinds[kind].punch(0, 0);
        }
        return kinds[kind];
    }

    private static void promise22WrapsAround() {
        boolean isBelow = false;
        boolean isAbove = false;
        BigInteger all = BigInteger.ONE.shiftLeft(64);
        for (int kind = 0; kind < 3; kind++) {
            for (int times = 0; times < 16; times++) {
                int made = kind;
                int holes = times;
                BigInteger wide = unwrapped(() -> punched(made, holes));
                Check.isTrue("it is too great for 64 bits", wide.bitLength() > 64);
                BigInteger wrapped = wide.mod(all);
                boolean isNegative = wrapped.testBit(63);
                BigInteger due = isNegative ? wrapped.subtract(all) : wrapped;
                Check.same("as a 64-bit integer", BigInteger.valueOf(punched(kind, times).digest()), due);
                isBelow |= isNegative;
                isAbove |= !isNegative;
            }
        }
        Check.isTrue("some wrap around to less than 0", isBelow);
        Check.isTrue("some do not", isAbove);
    }

    private static Creasebook used() {
        Creasebook book = Sheets.sheet(5, 4);
        book.ink(0, 0);
        book.fold(0, 2, NEAR, OVER);
        book.turn();
        book.ink(1, 1);
        book.fold(1, 3, FAR, UNDER);
        book.punch(1, 1);
        book.glue(0, 1);
        return book;
    }

    private static void nothingIsChanged() {
        String due = Sheets.digestsToTheStart(used());
        for (int lower = 0; lower < 20; lower++) {
            Creasebook asked = used();
            String before = Sheets.lies(asked);
            long digest = asked.digest();
            for (int upper = 0; upper < 20; upper++) {
                if (lower != upper) {
                    asked.bring(lower, upper);
                }
            }
            for (int what = 0; what < 4; what++) {
                asked.would(0, 1, FAR, UNDER, what);
                asked.would(1, 2, NEAR, OVER, what);
            }
            asked.bestFold();
            asked.fewest();
            Check.same("nothing is changed", asked.digest(), digest);
            Check.same("nothing is changed", Sheets.lies(asked), before);
            Check.same("nothing is changed, behind unfold() either", Sheets.digestsToTheStart(asked), due);
        }
    }
}
