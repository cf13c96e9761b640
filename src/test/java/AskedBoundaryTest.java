/** Promises 11 to 17, what is asked: each boundary that a sentence of them names, and what is answered there. */
public final class AskedBoundaryTest {
    private static final int NONE = -1;
    private static final boolean NEAR = false;
    private static final boolean FAR = true;
    private static final boolean UNDER = false;
    private static final boolean OVER = true;
    private static final boolean[] BOTH = {false, true};
    private static final Class<?> WRONG = IllegalArgumentException.class;
    private static final Class<?> INDEX = IndexOutOfBoundsException.class;
    private static final int LOW = Integer.MIN_VALUE;
    private static final int TOP = Integer.MAX_VALUE;

    public static void main(String[] args) {
        promise11LeastAndMost();
        promise11PlacesThatAreNot();
        promise11WhatIsNot();
        promise12EachLayer();
        promise12LayersThatAreNot();
        promise13EachCell();
        promise13LeastAndMost();
        promise13CellsThatAreNot();
        promise14EachPair();
        promise14CreasesAndMarks();
        promise14CellsThatAreNot();
        promise15LeastAndMost();
        promise15CornersThatAreNot();
        promise16LeastAndMost();
        promise16Blots();
        promise16Nones();
        promise16WhatIsNot();
        promise17LeastAndMost();
        promise17OfTwoAsNear();
        promise17NearestOfOthers();
        promise17AxesThatAreNot();
        Check.end("AskedBoundaryTest");
    }

    /** Numbers that are not from 0 to the bound less 1: just beside it, far off, and such as wrap around to it. */
    private static int[] not(int bound) {
        return new int[] {LOW, LOW + 1, -bound, -1, bound, bound + 1, 1 << 8, 1 << 16, 1 << 29, 1 << 30, TOP - 1, TOP};
    }

    private static void place(String words, Creasebook book, int x, int y, int... due) {
        for (int what = 0; what < due.length; what++) {
            Check.same(words + ": ofPlace(" + x + ", " + y + ", " + what + ")", book.ofPlace(x, y, what), due[what]);
        }
    }

    private static void cell(String words, Creasebook book, int cell, int... due) {
        for (int what = 0; what < due.length; what++) {
            Check.same(words + ": ofCell(" + cell + ", " + what + ")", book.ofCell(cell, what), due[what]);
        }
    }

    private static void many(String words, Creasebook book, int... due) {
        for (int what = 0; what < due.length; what++) {
            Check.same(words + ": many(" + what + ")", book.many(what), due[what]);
        }
    }

    private static void promise11LeastAndMost() {
        Creasebook book = Sheets.sheet(8, 4);
        place("the first PLACE", book, 0, 0, 1, 0, 1, 0, 1, 0, 0);
        place("the last PLACE", book, 7, 3, 1, 31, 1, 31, 1, 0, 0);
        book.turn();
        place("turned", book, 7, 3, 1, 24, 0, 24, 0, 0, 0);
        book.punch(7, 3);
        book.punch(7, 3);
        place("two HOLES", book, 7, 3, 1, 24, 0, 24, 0, 2, 0);
        Creasebook two = Sheets.sheet(2, 1);
        two.fold(0, 1, FAR, UNDER);
        place("a PILE of two", two, 0, 0, 2, 0, 1, 1, 0, 0, 0);
        two.punch(0, 0);
        two.glue(0, 0);
        place("punched and glued", two, 0, 0, 2, 0, 1, 1, 0, 2, 1);
        two.turn();
        place("punched, glued and turned", two, 0, 0, 2, 1, 1, 0, 0, 2, 1);
        Creasebook full = Sheets.onePile();
        full.punch(0, 0);
        full.glue(0, 0);
        Check.same("32 CELLS", full.ofPlace(0, 0, 0), 32);
        Check.same("HOLES of all of them together", full.ofPlace(0, 0, 5), 32);
        Check.same("all twos of CELLS", full.ofPlace(0, 0, 6), 31);
    }

    private static void promise11PlacesThatAreNot() {
        for (int[] size : Sheets.sizes()) {
            for (int wrong : not(size[0])) {
                Creasebook book = Sheets.sheet(size[0], size[1]);
                noPlace(book, wrong, 0);
                noPlace(book, wrong, size[1] - 1);
            }
            for (int wrong : not(size[1])) {
                Creasebook book = Sheets.sheet(size[0], size[1]);
                noPlace(book, 0, wrong);
                noPlace(book, size[0] - 1, wrong);
            }
        }
        Creasebook folded = Sheets.sheet(8, 4);
        folded.fold(0, 4, NEAR, OVER);
        folded.fold(1, 1, NEAR, OVER);
        noPlace(folded, 4, 0);
        noPlace(folded, 0, 3);
        Check.same("the last PLACE that there is", folded.ofPlace(3, 2, 0), 2);
    }

    private static void noPlace(Creasebook book, int x, int y) {
        String words = "(" + x + ", " + y + ", .) of " + book.many(2) + " by " + book.many(3);
        for (int what : new int[] {LOW, -1, 0, 6, 7, TOP}) {
            Check.refuses("ofPlace" + words + " with " + what, book, INDEX, () -> book.ofPlace(x, y, what));
        }
        for (int layer : new int[] {LOW, -1, 0, 1, TOP}) {
            Check.refuses("at" + words + " with " + layer, book, INDEX, () -> book.at(x, y, layer));
        }
    }

    private static void promise11WhatIsNot() {
        Creasebook book = Sheets.sheet(8, 4);
        for (int what : not(7)) {
            Check.refuses("ofPlace(0, 0, " + what + ")", book, WRONG, () -> book.ofPlace(0, 0, what));
            Check.refuses("ofPlace(7, 3, " + what + ")", book, WRONG, () -> book.ofPlace(7, 3, what));
        }
    }

    /** The PILE of 8 by 4, as it is folded by halves: worked out by hand along the columns, then along the rows. */
    private static void promise12EachLayer() {
        Creasebook book = Sheets.sheet(8, 1);
        book.fold(0, 4, NEAR, OVER);
        Check.same("halved", Sheets.lies(book), "4 3', 5 2', 6 1', 7 0'");
        book.fold(0, 2, NEAR, OVER);
        Check.same("quartered", Sheets.lies(book), "6 1' 2 5', 7 0' 3 4'");
        book.fold(0, 1, NEAR, OVER);
        int[] due = {7, 0, 3, 4, 5, 2, 1, 6};
        for (int layer = 0; layer < 8; layer++) {
            Check.same("LAYER " + layer, book.at(0, 0, layer), due[layer]);
        }
        book.turn();
        for (int layer = 0; layer < 8; layer++) {
            Check.same("LAYER " + layer + ", turned", book.at(0, 0, layer), due[7 - layer]);
        }
        book.round();
        Check.same("ROUND, the PILE stays", book.at(0, 0, 7), 7);
        boolean[] seen = new boolean[32];
        Creasebook full = Sheets.onePile();
        for (int layer = 0; layer < 32; layer++) {
            int cell = full.at(0, 0, layer);
            Check.isTrue("each CELL is in one LAYER", cell >= 0 && cell < 32 && !seen[cell]);
            seen[cell] = true;
        }
    }

    private static void promise12LayersThatAreNot() {
        Creasebook flat = Sheets.sheet(8, 4);
        for (int layer : not(1)) {
            Check.refuses("LAYER " + layer + " of 1", flat, INDEX, () -> flat.at(7, 3, layer));
        }
        Creasebook full = Sheets.onePile();
        for (int layer : not(32)) {
            Check.refuses("LAYER " + layer + " of 32", full, INDEX, () -> full.at(0, 0, layer));
        }
        Creasebook uneven = Sheets.sheet(3, 1);
        uneven.fold(0, 1, NEAR, OVER);
        Check.same("LAYER 1 of 2", uneven.at(0, 0, 1), 0);
        Check.refuses("LAYER 1 of 1, beside a PILE of 2", uneven, INDEX, () -> uneven.at(1, 0, 1));
        Check.refuses("LAYER 2 of 2", uneven, INDEX, () -> uneven.at(0, 0, 2));
        uneven.unfold();
        Check.refuses("a LAYER that was", uneven, INDEX, () -> uneven.at(0, 0, 1));
    }

    private static void promise13EachCell() {
        for (int[] size : Sheets.sizes()) {
            Creasebook book = Sheets.sheet(size[0], size[1]);
            for (int cell = 0; cell < size[0] * size[1]; cell++) {
                cell("flat", book, cell, cell % size[0], cell / size[0], 0, 1, 0, 0, 0, 0);
            }
        }
    }

    private static void promise13LeastAndMost() {
        Creasebook book = Sheets.sheet(8, 4);
        book.turn();
        cell("turned", book, 0, 7, 0, 0, 0, 0, 0, 0, 0);
        book.ink(7, 0);
        cell("its BACK is WET", book, 0, 7, 0, 0, 0, 0, 0, 2, 0);
        book.dry();
        book.turn();
        book.ink(0, 0);
        book.punch(0, 0);
        cell("FRONT WET, BACK DRY", book, 0, 0, 0, 0, 1, 1, 2, 1, 0);
        Creasebook full = Sheets.onePile();
        int highest = full.ofPlace(0, 0, 1);
        Check.same("the highest LAYER of 32", full.ofCell(highest, 2), 31);
        Check.same("the lowest LAYER of 32", full.ofCell(full.ofPlace(0, 0, 3), 2), 0);
        Check.same("an inner CELL: all four of its PAIRS", full.ofCell(9, 7), 4);
        Check.same("a CELL in a corner: both of its PAIRS", full.ofCell(0, 7), 2);
        Check.same("the last CELL: both of its PAIRS", full.ofCell(31, 7), 2);
        Check.same("a CELL at a side: its three PAIRS", full.ofCell(7 + 8, 7), 3);
        Check.same("a CELL at a side: its three PAIRS", full.ofCell(1, 7), 3);
        full.unfold();
        Check.same("PAIRS with MARKS alone do not count", full.ofCell(9, 7), 3);
        Creasebook one = new Creasebook();
        Check.same("a CELL without a PAIR", one.ofCell(0, 7), 0);
    }

    private static void promise13CellsThatAreNot() {
        for (int[] size : Sheets.sizes()) {
            Creasebook book = Sheets.sheet(size[0], size[1]);
            for (int cell : not(size[0] * size[1])) {
                for (int what : new int[] {LOW, -1, 0, 7, 8, TOP}) {
                    Check.refuses("ofCell(" + cell + ", " + what + ")", book, INDEX, () -> book.ofCell(cell, what));
                }
            }
            for (int what : not(8)) {
                Check.refuses("ofCell(0, " + what + ")", book, WRONG, () -> book.ofCell(0, what));
            }
        }
        Creasebook folded = Sheets.onePile();
        Check.same("the last CELL, though the FORM is one PLACE", folded.ofCell(31, 0), 0);
        Check.refuses("the one behind it", folded, INDEX, () -> folded.ofCell(32, 0));
    }

    private static void promise14EachPair() {
        for (int[] size : Sheets.sizes()) {
            Creasebook book = Sheets.sheet(size[0], size[1]);
            for (int cell = 0; cell < size[0] * size[1]; cell++) {
                int inRow = cell % size[0] < size[0] - 1 ? 0 : NONE;
                int inColumn = cell / size[0] < size[1] - 1 ? 0 : NONE;
                for (int what = 0; what < 2; what++) {
                    Check.same("the next one in the row of " + cell, book.ofPair(cell, false, what), inRow);
                    Check.same("the one of the next row of " + cell, book.ofPair(cell, true, what), inColumn);
                }
            }
        }
    }

    private static void promise14CreasesAndMarks() {
        Creasebook book = Sheets.sheet(8, 4);
        book.fold(0, 7, FAR, OVER);
        Check.same("the last PAIR of the last row: a VALLEY", book.ofPair(30, false, 0), 1);
        Check.same("the last PAIR of the first row: a VALLEY", book.ofPair(6, false, 0), 1);
        Check.same("the CELL of the last row has none below", book.ofPair(30, true, 0), NONE);
        Check.same("none beside, though there are CREASES", book.ofPair(31, false, 0), NONE);
        Check.same("none beside, though there are MARKS", book.ofPair(31, false, 1), NONE);
        book.unfold();
        book.turn();
        book.fold(1, 3, FAR, OVER);
        Check.same("the last PAIR of the last column: a MOUNTAIN", book.ofPair(23, true, 0), 2);
        Check.same("the last PAIR of the first column: a MOUNTAIN", book.ofPair(16, true, 0), 2);
        Check.same("a CREASE that is gone", book.ofPair(30, false, 0), 0);
        Check.same("its MARKS", book.ofPair(30, false, 1), 1);
        for (int times = 2; times <= 240; times++) {
            book.unfold();
            book.fold(1, 3, FAR, OVER);
        }
        Check.same("MARKS without an end", book.ofPair(23, true, 1), 240);
    }

    private static void promise14CellsThatAreNot() {
        for (int[] size : Sheets.sizes()) {
            Creasebook book = Sheets.sheet(size[0], size[1]);
            int last = size[0] * size[1] - 1;
            for (boolean isDown : BOTH) {
                for (int cell : not(last + 1)) {
                    Check.refuses("ofPair(" + cell + ", " + isDown + ", 0)", book, INDEX,
                            () -> book.ofPair(cell, isDown, 0));
                    Check.refuses("ofPair(" + cell + ", " + isDown + ", 2)", book, INDEX,
                            () -> book.ofPair(cell, isDown, 2));
                }
                for (int what : not(2)) {
                    Check.refuses("ofPair(0, " + isDown + ", " + what + ")", book, WRONG,
                            () -> book.ofPair(0, isDown, what));
                    Check.refuses("ofPair of the last CELL, which has none beside it, with " + what, book, WRONG,
                            () -> book.ofPair(last, isDown, what));
                }
            }
        }
    }

    private static void promise15LeastAndMost() {
        Creasebook book = Sheets.sheet(3, 3);
        for (int what = 0; what < 3; what++) {
            Check.same("flat: ofCorner(1, 1, " + what + ")", book.ofCorner(1, 1, what), 0);
            Check.same("flat: ofCorner(2, 2, " + what + ")", book.ofCorner(2, 2, what), 0);
        }
        book.fold(0, 2, FAR, UNDER);
        int[][] due = {{0, 0, 0}, {2, 2, 2}, {0, 0, 0}, {2, 2, 2}};
        for (int corner = 0; corner < 4; corner++) {
            for (int what = 0; what < 3; what++) {
                Check.same("a LINE of columns: CORNER " + corner + ", " + what,
                        book.ofCorner(1 + corner % 2, 1 + corner / 2, what), due[corner][what]);
            }
        }
        book.unfold();
        book.fold(1, 2, FAR, OVER);
        int[][] then = {{0, 0, 0}, {0, 0, 2}, {2, -2, 2}, {2, -2, 4}};
        for (int corner = 0; corner < 4; corner++) {
            for (int what = 0; what < 3; what++) {
                Check.same("a LINE of rows: CORNER " + corner + ", " + what,
                        book.ofCorner(1 + corner % 2, 1 + corner / 2, what), then[corner][what]);
            }
        }
        Creasebook full = Sheets.onePile();
        for (int y = 1; y <= 3; y++) {
            for (int x = 1; x <= 7; x++) {
                int balance = full.ofCorner(x, y, 1);
                Check.same("all PAIRS have a CREASE", full.ofCorner(x, y, 0), 4);
                Check.same("all PAIRS have MARKS", full.ofCorner(x, y, 2), 4);
                Check.same("a CORNER that lies flat has 2 more of one kind", Math.abs(balance), 2);
            }
        }
    }

    private static void promise15CornersThatAreNot() {
        for (int[] size : Sheets.sizes()) {
            Creasebook book = Sheets.sheet(size[0], size[1]);
            int[] wrongX = {LOW, -1, 0, size[0], size[0] + 1, 1 << 29, 1 << 30, TOP};
            int[] wrongY = {LOW, -1, 0, size[1], size[1] + 1, 1 << 29, 1 << 30, TOP};
            for (int what : new int[] {LOW, -1, 0, 2, 3, TOP}) {
                for (int wrong : wrongX) {
                    Check.refuses("ofCorner(" + wrong + ", 1, " + what + ")", book, INDEX,
                            () -> book.ofCorner(wrong, 1, what));
                }
                for (int wrong : wrongY) {
                    Check.refuses("ofCorner(1, " + wrong + ", " + what + ")", book, INDEX,
                            () -> book.ofCorner(1, wrong, what));
                }
            }
        }
        Creasebook book = Sheets.sheet(8, 4);
        for (int what : not(3)) {
            Check.refuses("ofCorner(1, 1, " + what + ")", book, WRONG, () -> book.ofCorner(1, 1, what));
            Check.refuses("ofCorner(7, 3, " + what + ")", book, WRONG, () -> book.ofCorner(7, 3, what));
        }
    }

    private static void promise16LeastAndMost() {
        many("least", new Creasebook(), 1, 1, 1, 1, 0, 0, 0, 0, 0, 0, 0, 1, 1, 0, 0, 0);
        Creasebook book = Sheets.sheet(8, 4);
        many("flat", book, 8, 4, 8, 4, 0, 0, 0, 0, 0, 0, 0, 1, 32, 0, 0, 0);
        book.turn();
        many("turned: all FRONTS from below", book, 8, 4, 8, 4, 0, 0, 0, 0, 0, 0, 0, 1, 0, 32, 0, 0);
        for (int place = 0; place < 32; place++) {
            book.ink(place % 8, place / 8);
            book.punch(place % 8, place / 8);
        }
        many("all BACKS are WET", book, 8, 4, 8, 4, 0, 0, 0, 0, 32, 0, 32, 1, 0, 32, 0, 0);
        book.turn();
        for (int place = 0; place < 32; place++) {
            book.ink(place % 8, place / 8);
        }
        many("all sides are WET", book, 8, 4, 8, 4, 0, 0, 0, 0, 64, 0, 32, 1, 32, 0, 0, 0);
        book.dry();
        many("all sides are DRY", book, 8, 4, 8, 4, 0, 0, 0, 0, 0, 64, 32, 1, 32, 0, 0, 0);
        book.fold(0, 4, NEAR, OVER);
        many("VALLEYS alone", book, 8, 4, 4, 4, 1, 4, 0, 4, 0, 64, 32, 2, 0, 0, 0, 0);
        book.unfold();
        book.fold(0, 4, NEAR, UNDER);
        many("MOUNTAINS alone", book, 8, 4, 4, 4, 1, 0, 4, 8, 0, 64, 32, 2, 16, 16, 0, 0);
        book.fold(1, 2, FAR, UNDER);
        many("both", book, 8, 4, 4, 2, 2, 4, 8, 16, 0, 64, 32, 4, 8, 8, 0, 0);
    }

    private static void promise16Blots() {
        Creasebook book = Sheets.sheet(8, 4);
        for (int place = 0; place < 16; place++) {
            book.ink(place % 4, place / 4);
        }
        book.fold(0, 4, NEAR, OVER);
        Check.same("16 BLOTS", book.many(14), 16);
        book.unfold();
        Check.same("BLOTS since the SHEET was told", book.many(14), 16);
        book.dry();
        book.ink(0, 0);
        book.fold(0, 4, FAR, OVER);
        Check.same("one more", book.many(14), 17);
        Check.refuses("a FOLD that is refused", book, WRONG, () -> book.fold(0, 4, FAR, OVER));
        Check.same("what would be does not count", book.would(0, 2, NEAR, OVER, 3), 0);
        Check.same("as many", book.many(14), 17);
        book.sheet(8, 4);
        Check.same("of a new SHEET", book.many(14), 0);
    }

    private static void promise16Nones() {
        Creasebook book = Sheets.sheet(2, 1);
        book.unfold();
        book.fold(0, 1, NEAR, OVER);
        book.unfold();
        Check.same("NONE once, 0 does not count", book.many(15), 1);
        book.fold(0, 1, NEAR, OVER);
        book.glue(0, 0);
        book.unfold();
        Check.same("NONE by glue counts, too", book.many(15), 2);
        Check.refuses("a refused sheet()", book, WRONG, () -> book.sheet(9, 9));
        Check.same("as often", book.many(15), 2);
        book.sheet(2, 1);
        Check.same("since then", book.many(15), 0);
        Check.same("NONE of bestFold() does not count", new Creasebook().bestFold(), NONE);
        book.ofPair(1, false, 0);
        book.bring(0, 1);
        Check.same("NONE of other calls does not count", book.many(15), 0);
    }

    private static void promise16WhatIsNot() {
        for (Creasebook book : new Creasebook[] {new Creasebook(), Sheets.onePile(), Sheets.eightFolds()}) {
            for (int what : not(16)) {
                Check.refuses("many(" + what + ")", book, WRONG, () -> book.many(what));
            }
        }
    }

    private static void promise17LeastAndMost() {
        for (int length = 1; length <= 8; length++) {
            for (int axis = 0; axis < 2; axis++) {
                Creasebook book = Sheets.strip(axis, length);
                Check.same("the middle of " + length, book.weight(axis), (length - 1) / 2.0);
                Check.same("across", book.weight(1 - axis), 0.0);
            }
        }
        Creasebook full = Sheets.onePile();
        Check.same("of one PLACE", full.weight(0), 0.0);
        Check.same("of one PLACE", full.weight(1), 0.0);
    }

    /** 8 CELLS, the sum of whose x (y) is odd: an odd number of eighths, just between two quarters. */
    private static void promise17OfTwoAsNear() {
        for (int axis = 0; axis < 2; axis++) {
            Creasebook book = Sheets.strip(axis, 8);
            book.fold(axis, 1, NEAR, OVER);
            Check.same("21 eighths: 10 quarters, not 11", book.weight(axis), 2.5);
            book.round();
            Check.same("27 eighths: 14 quarters, not 13", book.weight(axis), 3.5);
            book.unfold();
            book.fold(axis, 3, NEAR, OVER);
            Check.same("13 eighths: 6 quarters, not 7", book.weight(axis), 1.5);
            book.round();
            Check.same("19 eighths: 10 quarters, not 9", book.weight(axis), 2.5);
            book.unfold();
            book.fold(axis, 4, NEAR, OVER);
            book.fold(axis, 1, NEAR, OVER);
            Check.same("6 eighths are 3 quarters", book.weight(axis), 0.75);
        }
        Creasebook wide = Sheets.sheet(8, 4);
        wide.fold(0, 1, NEAR, OVER);
        Check.same("84 of 32: 10 quarters, not 11", wide.weight(0), 2.5);
        wide.fold(1, 1, NEAR, OVER);
        Check.same("24 of 32: 3 quarters", wide.weight(1), 0.75);
    }

    private static void promise17NearestOfOthers() {
        double[] due = {0.0, 0.25, 0.75, 1.25, 1.75, 2.25, 2.5};
        for (int length = 2; length <= 8; length++) {
            Creasebook book = Sheets.strip(0, length);
            book.fold(0, 1, NEAR, OVER);
            Check.same("the first of " + length + " upon the second one", book.weight(0), due[length - 2]);
        }
        Creasebook seven = Sheets.strip(1, 7);
        seven.fold(1, 3, NEAR, OVER);
        Check.same("9 sevenths: 5 quarters", seven.weight(1), 1.25);
        Creasebook five = Sheets.strip(1, 5);
        five.fold(1, 2, FAR, UNDER);
        Check.same("6 fifths: 5 quarters", five.weight(1), 1.25);
        five.round();
        Check.same("4 fifths: 3 quarters", five.weight(1), 0.75);
    }

    private static void promise17AxesThatAreNot() {
        for (Creasebook book : new Creasebook[] {new Creasebook(), Sheets.sheet(8, 4), Sheets.eightFolds()}) {
            for (int axis : not(2)) {
                Check.refuses("weight(" + axis + ")", book, WRONG, () -> book.weight(axis));
            }
        }
    }
}
