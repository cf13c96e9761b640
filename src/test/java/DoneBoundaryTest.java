import java.util.List;

/** Promises 1 to 10, what is done: each boundary that a sentence of them names, and what is answered there. */
public final class DoneBoundaryTest {
    private static final int NONE = -1;
    private static final boolean NEAR = false;
    private static final boolean FAR = true;
    private static final boolean UNDER = false;
    private static final boolean OVER = true;
    private static final Class<?> WRONG = IllegalArgumentException.class;
    private static final Class<?> STATE = IllegalStateException.class;
    private static final Class<?> INDEX = IndexOutOfBoundsException.class;
    private static final int LOW = Integer.MIN_VALUE;
    private static final int TOP = Integer.MAX_VALUE;

    public static void main(String[] args) {
        promise1OneCell();
        promise1OneCellIsUsed();
        promise2EachSize();
        promise2WrapsAround();
        promise2Forgets();
        promise2RefusedForgetsNothing();
        promise3HowManyCreases();
        promise3FirstNamed();
        promise3FullSheet();
        promise4FoldsLeft();
        promise5FrontsFromAbove();
        promise6HighestOfTheFirstPlace();
        promise7WasNotWet();
        promise8HowManyWereWet();
        promise9HowManyAreInIt();
        promise10HowManyWereNotGlued();
        placesThatAreNot();
        placesThatAreNoMore();
        Check.end("DoneBoundaryTest");
    }

    private static void lie(String when, Creasebook book, String due) {
        Check.same(when, Sheets.lies(book), due);
    }

    private static void promise1OneCell() {
        Creasebook book = new Creasebook();
        int[] many = {1, 1, 1, 1, 0, 0, 0, 0, 0, 0, 0, 1, 1, 0, 0, 0};
        for (int what = 0; what < many.length; what++) {
            Check.same("new: many(" + what + ")", book.many(what), many[what]);
        }
        int[] place = {1, 0, 1, 0, 1, 0, 0};
        for (int what = 0; what < place.length; what++) {
            Check.same("new: ofPlace(0, 0, " + what + ")", book.ofPlace(0, 0, what), place[what]);
        }
        int[] cell = {0, 0, 0, 1, 0, 0, 0, 0};
        for (int what = 0; what < cell.length; what++) {
            Check.same("new: ofCell(0, " + what + ")", book.ofCell(0, what), cell[what]);
        }
        Check.same("new: at(0, 0, 0)", book.at(0, 0, 0), 0);
        Check.same("new: weight(0)", book.weight(0), 0.0);
        Check.same("new: weight(1)", book.weight(1), 0.0);
        Check.same("new: no LINE for bestFold()", book.bestFold(), NONE);
        Check.same("new: one PLACE", book.fewest(), 0);
        Check.same("new: no PAIR", book.ofPair(0, false, 0), NONE);
        Check.same("new: no PAIR", book.ofPair(0, true, 1), NONE);
        Check.same("as sheet(1, 1)", Sheets.digestsToTheStart(book), Sheets.digestsToTheStart(Sheets.sheet(1, 1)));
    }

    private static void promise1OneCellIsUsed() {
        Creasebook book = new Creasebook();
        Check.refuses("fold of columns", book, WRONG, () -> book.fold(0, 1, NEAR, OVER));
        Check.refuses("fold of rows", book, WRONG, () -> book.fold(1, 1, FAR, UNDER));
        Check.same("unfold", book.unfold(), NONE);
        Check.same("turn", book.turn(), 0);
        Check.same("round", book.round(), 0);
        Check.same("ink on its BACK", book.ink(0, 0), true);
        Check.same("turn again", book.turn(), 1);
        Check.same("ink on its FRONT", book.ink(0, 0), true);
        Check.same("dry", book.dry(), 2);
        Check.same("punch", book.punch(0, 0), 1);
        Check.same("glue", book.glue(0, 0), 0);
        Check.same("bring of it alone", Check.outcome(() -> book.bring(0, 0)), "IllegalArgumentException");
        Check.same("bring of what is not", Check.outcome(() -> book.bring(0, 1)), "IndexOutOfBoundsException");
    }

    private static void promise2EachSize() {
        for (int wide = -2; wide <= 34; wide++) {
            for (int high = -2; high <= 34; high++) {
                Creasebook book = Sheets.sheet(2, 3);
                int toldWide = wide;
                int toldHigh = high;
                boolean is = wide >= 1 && wide <= 8 && high >= 1 && high <= 8 && wide * high <= 32;
                if (is) {
                    Check.same("sheet(" + wide + ", " + high + ")", book.sheet(wide, high), wide * high);
                    Check.same("WIDE", book.many(0), wide);
                    Check.same("HIGH", book.many(1), high);
                } else {
                    Check.refuses("sheet(" + wide + ", " + high + ")", book, WRONG,
                            () -> book.sheet(toldWide, toldHigh));
                }
            }
        }
        Check.same("how many sizes there are", Sheets.sizes().size(), 8 + 8 + 8 + 8 + 6 + 5 + 4 + 4);
    }

    /** Products that wrap around, to 0, 1, 16 or 32, or to less than 0, are no SHEET of so many CELLS. */
    private static void promise2WrapsAround() {
        Creasebook book = Sheets.sheet(2, 2);
        int[][] wrong = {{1 << 16, 1 << 16}, {1 << 30, 4}, {4, 1 << 30}, {8, 1 << 29}, {-1, -1}, {-4, -8}, {LOW, LOW},
            {TOP, TOP}, {LOW, 1}, {1, LOW}, {TOP, 1}, {1, TOP}, {LOW, 2}, {2, LOW}, {(1 << 28) + 1, 16}, {TOP, 2},
            {0, TOP}, {0, 0}, {33, 1}, {1, 33}, {16, 2}, {2, 16}};
        for (int[] size : wrong) {
            Check.refuses("sheet(" + size[0] + ", " + size[1] + ")", book, WRONG, () -> book.sheet(size[0], size[1]));
        }
    }

    /** All that there may be is there, on the greatest SHEET, ahead of each of these. */
    private static Creasebook used() {
        Creasebook book = Sheets.sheet(8, 4);
        book.unfold();
        book.ink(7, 3);
        book.dry();
        book.ink(0, 0);
        book.turn();
        book.fold(0, 4, FAR, OVER);
        book.punch(0, 0);
        book.fold(1, 2, NEAR, UNDER);
        book.glue(3, 1);
        book.round();
        book.unfold();
        return book;
    }

    private static void promise2Forgets() {
        for (int[] size : Sheets.sizes()) {
            Creasebook book = used();
            book.sheet(size[0], size[1]);
            String words = "all that was is forgotten by sheet(" + size[0] + ", " + size[1] + ")";
            Creasebook other = Sheets.sheet(size[0], size[1]);
            Check.same(words, book.digest(), other.digest());
            Check.same(words, Sheets.lies(book), Sheets.lies(other));
            alike(words, book, other);
        }
    }

    /** What was hidden by one SHEET would come to light as the other one is folded, glued and unfolded. */
    private static void alike(String words, Creasebook book, Creasebook other) {
        for (Creasebook one : List.of(book, other)) {
            if (one.many(2) > 1) {
                one.fold(0, one.many(2) / 2, NEAR, OVER);
            }
            if (one.many(3) > 1) {
                one.fold(1, one.many(3) / 2, FAR, UNDER);
            }
        }
        Check.same(words, book.glue(0, 0), other.glue(0, 0));
        Check.same(words, Sheets.digestsToTheStart(book), Sheets.digestsToTheStart(other));
    }

    private static void promise2RefusedForgetsNothing() {
        Creasebook book = used();
        for (int[] size : new int[][] {{0, 0}, {9, 1}, {1, 9}, {8, 5}, {TOP, TOP}}) {
            Check.refuses("sheet of no such size", book, WRONG, () -> book.sheet(size[0], size[1]));
        }
        Check.same("as it was", Sheets.digestsToTheStart(book), Sheets.digestsToTheStart(used()));
    }

    private static void promise3HowManyCreases() {
        for (int[] size : Sheets.sizes()) {
            Creasebook book = Sheets.sheet(size[0], size[1]);
            int folds = 0;
            while (book.many(2) > 1 && folds < 8) {
                folds++;
                int got = book.fold(0, book.many(2) - 1, FAR, OVER);
                Check.same("a CREASE in each of the rows of " + size[0] + " by " + size[1], got, size[1]);
            }
            while (book.many(3) > 1 && folds < 8) {
                folds++;
                int got = book.fold(1, 1, NEAR, UNDER);
                Check.same("a CREASE in each of the columns of " + size[0] + " by " + size[1], got, size[0]);
            }
        }
    }

    private static void promise3FirstNamed() {
        Creasebook book = Sheets.eightFolds();
        for (int axis : new int[] {LOW, -1, 2, TOP}) {
            Check.refuses("no such AXIS, ahead of 8 FOLDS", book, WRONG, () -> book.fold(axis, 1, NEAR, OVER));
        }
        for (int line : new int[] {LOW, -1, 0, 2, TOP}) {
            Check.refuses("no such LINE, ahead of 8 FOLDS", book, WRONG, () -> book.fold(1, line, NEAR, OVER));
        }
        Check.refuses("one PLACE across, ahead of 8 FOLDS", book, WRONG, () -> book.fold(0, 1, NEAR, OVER));
        Check.refuses("8 FOLDS", book, STATE, () -> book.fold(1, 1, NEAR, OVER));
        Check.refuses("8 FOLDS", book, STATE, () -> book.fold(1, 1, FAR, UNDER));
        book.unfold();
        Check.same("7 FOLDS", book.fold(1, 1, FAR, UNDER), 8);
    }

    private static void promise3FullSheet() {
        Creasebook book = Sheets.sheet(8, 4);
        int[][] halves = {{0, 4, 4, 16}, {0, 2, 8, 8}, {0, 1, 16, 4}, {1, 2, 8, 2}, {1, 1, 16, 1}};
        int highest = 1;
        for (int[] half : halves) {
            highest *= 2;
            Check.same("PAIRS that got a CREASE", book.fold(half[0], half[1], FAR, OVER), half[2]);
            Check.same("PLACES", book.many(2) * book.many(3), half[3]);
            Check.same("the highest PILE", book.many(11), highest);
        }
        Check.same("all PAIRS of 8 by 4 have a CREASE", book.many(5) + book.many(6), 7 * 4 + 8 * 3);
        Check.refuses("no LINE is left", book, WRONG, () -> book.fold(0, 1, NEAR, OVER));
        Check.refuses("no LINE is left", book, WRONG, () -> book.fold(1, 1, NEAR, OVER));
    }

    private static void promise4FoldsLeft() {
        Creasebook book = Sheets.eightFolds();
        for (int left = 7; left >= 0; left--) {
            Check.same("how many FOLDS are left", book.unfold(), left);
            Check.same("CREASES of then", book.many(5) + book.many(6), 3 * left);
            Creasebook then = Sheets.sheet(8, 3);
            for (int i = 0; i < left; i++) {
                then.fold(0, 1, NEAR, OVER);
            }
            for (int cell = 0; cell < 24; cell += 5) {
                for (int what = 0; what < 4; what++) {
                    Check.same("it lies as ahead of FOLD " + (left + 1), book.ofCell(cell, what),
                            then.ofCell(cell, what));
                }
            }
        }
        Check.same("NONE, if that can not be", book.unfold(), NONE);
        Check.same("NONE counts", book.many(15), 1);
        Check.same("nothing is done then", Sheets.lies(book), Sheets.lies(Sheets.sheet(8, 3)));
        Check.same("MARKS stay", book.many(7), 7 * 3 + 8);
    }

    private static void promise5FrontsFromAbove() {
        for (int[] size : Sheets.sizes()) {
            Creasebook book = Sheets.sheet(size[0], size[1]);
            Check.same("turned: no FRONT", book.turn(), 0);
            Check.same("turned again: each FRONT", book.turn(), size[0] * size[1]);
        }
        Creasebook full = Sheets.onePile();
        boolean isUp = full.ofPlace(0, 0, 2) == 1;
        boolean lowestIsUp = full.ofPlace(0, 0, 4) == 1;
        Check.same("behind that, the lowest one is seen", full.turn(), lowestIsUp ? 0 : 1);
        Check.same("and then the highest one again", full.turn(), isUp ? 1 : 0);
        Creasebook mixed = Sheets.sheet(3, 1);
        mixed.fold(0, 2, NEAR, OVER);
        lie("folded", mixed, "2 1', 0'");
        Check.same("0 has its FRONT up then, 2 has not", mixed.turn(), 1);
    }

    private static void promise6HighestOfTheFirstPlace() {
        for (int[] size : Sheets.sizes()) {
            Creasebook book = Sheets.sheet(size[0], size[1]);
            Check.same("the last CELL is in the first PLACE", book.round(), size[0] * size[1] - 1);
            Check.same("ROUND twice", book.round(), 0);
        }
        Creasebook full = Sheets.onePile();
        int highest = full.ofPlace(0, 0, 1);
        Check.same("of one PLACE", full.round(), highest);
        Creasebook book = Sheets.sheet(2, 2);
        book.fold(0, 1, NEAR, OVER);
        Check.same("the highest one, not the lowest one", book.round(), 2);
    }

    private static void promise7WasNotWet() {
        Creasebook book = Sheets.sheet(2, 1);
        Check.same("none: was not WET", book.ink(1, 0), true);
        Check.same("WET: was WET", book.ink(1, 0), false);
        Check.same("it is WET still", book.ofCell(1, 5), 2);
        book.dry();
        Check.same("DRY: was not WET", book.ink(1, 0), true);
        Check.same("it is WET then", book.ofCell(1, 5), 2);
        book.turn();
        Check.same("its other side was not WET", book.ink(0, 0), true);
        book.turn();
        book.fold(0, 1, FAR, OVER);
        Check.same("its BACK is up, and WET", book.ink(0, 0), false);
        Check.same("0 has got ink by a BLOT", book.many(8), 3);
        book.unfold();
        Check.same("what has blotted is WET", book.ink(0, 0), false);
    }

    private static void promise8HowManyWereWet() {
        Check.same("none of a new object", new Creasebook().dry(), 0);
        Creasebook book = Sheets.sheet(8, 4);
        for (int times = 0; times < 2; times++) {
            for (int place = 0; place < 32; place++) {
                book.ink(place % 8, place / 8);
            }
            book.turn();
        }
        Check.same("all 64 sides were WET", book.dry(), 64);
        Check.same("none is any more", book.dry(), 0);
        Check.same("all are DRY", book.many(9), 64);
        book.fold(0, 4, NEAR, OVER);
        book.ink(3, 3);
        Check.same("one side of a PILE", book.dry(), 1);
    }

    private static void promise9HowManyAreInIt() {
        Creasebook book = Sheets.sheet(3, 1);
        book.fold(0, 1, NEAR, OVER);
        Check.same("two", book.punch(0, 0), 2);
        Check.same("one", book.punch(1, 0), 1);
        Check.same("as many again", book.punch(0, 0), 2);
        Check.same("32", Sheets.onePile().punch(0, 0), 32);
        Creasebook full = Sheets.onePile();
        for (int times = 1; times <= 400; times++) {
            full.punch(0, 0);
        }
        Check.same("HOLES of 32 CELLS, 400 times", full.many(10), 12800);
        Check.same("HOLES of the PLACE", full.ofPlace(0, 0, 5), 12800);
        Check.same("HOLES of the last CELL", full.ofCell(31, 4), 400);
    }

    private static void promise10HowManyWereNotGlued() {
        Creasebook book = Sheets.sheet(8, 4);
        Check.same("one CELL has none upon it", book.glue(7, 3), 0);
        int[][] halves = {{0, 4, 1, 1}, {0, 2, 3, 3}, {0, 1, 3, 7}, {1, 2, 15, 15}, {1, 1, 9, 31}};
        for (int[] half : halves) {
            book.fold(half[0], half[1], NEAR, OVER);
            Check.same("all twos that were not, of AXIS " + half[0], book.glue(0, 0), half[2]);
            Check.same("all twos of the PILE", book.ofPlace(0, 0, 6), half[3]);
            Check.same("none is left", book.glue(0, 0), 0);
        }
        Creasebook full = Sheets.onePile();
        Check.same("none of 31 is glued", full.ofPlace(0, 0, 6), 0);
        Check.same("31 of them", full.glue(0, 0), 31);
        full.turn();
        Check.same("none more, as they lie the other way round", full.glue(0, 0), 0);
    }

    private static void placesThatAreNot() {
        for (int[] size : Sheets.sizes()) {
            Creasebook book = Sheets.sheet(size[0], size[1]);
            for (int wrong : new int[] {LOW, -size[0], -1, size[0], size[0] + 1, 32, 1 << 29, 1 << 30, TOP}) {
                noPlace(book, wrong, 0);
                noPlace(book, wrong, size[1] - 1);
            }
            for (int wrong : new int[] {LOW, -size[1], -1, size[1], size[1] + 1, 32, 1 << 29, 1 << 30, TOP}) {
                noPlace(book, 0, wrong);
                noPlace(book, size[0] - 1, wrong);
            }
            noPlace(book, -1, 1);
            noPlace(book, size[0], -1);
            noPlace(book, LOW, TOP);
        }
    }

    private static void noPlace(Creasebook book, int x, int y) {
        String words = "(" + x + ", " + y + ") of " + book.many(2) + " by " + book.many(3);
        Check.refuses("ink" + words, book, INDEX, () -> book.ink(x, y));
        Check.refuses("punch" + words, book, INDEX, () -> book.punch(x, y));
        Check.refuses("glue" + words, book, INDEX, () -> book.glue(x, y));
    }

    private static void placesThatAreNoMore() {
        Creasebook book = Sheets.sheet(8, 4);
        book.fold(0, 4, NEAR, OVER);
        book.fold(1, 3, FAR, UNDER);
        noPlace(book, 4, 0);
        noPlace(book, 7, 0);
        noPlace(book, 0, 3);
        Check.same("the last PLACE that there is", book.punch(3, 2), 4);
        Check.same("the last COLUMN that there is", book.ink(3, 0), true);
        Check.same("the last ROW that there is", book.ink(0, 2), true);
        Check.same("one CELL of a PILE of one", Sheets.sheet(4, 3).glue(3, 2), 0);
        book.unfold();
        noPlace(book, 4, 3);
        Check.same("that ROW again", book.ink(0, 3), true);
        book.unfold();
        Check.same("that COLUMN again", book.ink(7, 0), true);
        book.sheet(1, 1);
        noPlace(book, 1, 0);
        noPlace(book, 0, 1);
    }
}
