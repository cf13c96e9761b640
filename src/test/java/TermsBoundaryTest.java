/**
 * What the document says ahead of its promises, at the boundary that each of its sentences names; the words of the
 * sentence stand in what is said of a wrong answer. Answers that are due were worked out by hand from those words.
 */
public final class TermsBoundaryTest {
    private static final int NONE = -1;
    private static final boolean NEAR = false;
    private static final boolean FAR = true;
    private static final boolean UNDER = false;
    private static final boolean OVER = true;
    private static final boolean[] BOTH = {false, true};
    private static final Class<?> WRONG = IllegalArgumentException.class;
    private static final Class<?> STATE = IllegalStateException.class;
    private static final int LOW = Integer.MIN_VALUE;
    private static final int TOP = Integer.MAX_VALUE;

    public static void main(String[] args) {
        numbersOfCells();
        layersFromTheLowest();
        seenWhateverHoles();
        eachLineOfEachStrip();
        eachLineOfRowsAndColumns();
        linesThatAreNot();
        linesOfTheFormAlone();
        eightFoldsAtATime();
        onlyFoldsCount();
        pairsBySidesAlone();
        pairsAtTheLineAlone();
        creasedOnce();
        valleysAndMountains();
        marksAtEachCrease();
        unfoldWithoutAFold();
        unfoldOfWhatIsGlued();
        gluedInOnePart();
        whatStaysBehindUnfold();
        turnedBehindTheFold();
        inkOfTheHighest();
        blotsOfEachTwoInks();
        blotsOfTheOuterSides();
        blotsWhereBothComeTogether();
        dryOfEachInk();
        holesOfAllLayers();
        gluedTillANewSheet();
        turnOfFewColumns();
        roundOfFew();
        cornersWithinTheSheet();
        balanceOfCorners();
        codesFromLeastToGreatest();
        fiveHundredAndTwelveCalls();
        Check.end("TermsBoundaryTest");
    }

    private static void lie(String when, Creasebook book, String due) {
        Check.same(when, Sheets.lies(book), due);
    }

    private static void numbersOfCells() {
        String words = "at first each CELL lies alone in the PLACE of its own column and row, FRONT up";
        for (int[] size : Sheets.sizes()) {
            Creasebook book = Sheets.sheet(size[0], size[1]);
            for (int y = 0; y < size[1]; y++) {
                for (int x = 0; x < size[0]; x++) {
                    Check.same("its number is WIDE times y, and x", book.at(x, y, 0), size[0] * y + x);
                    Check.same(words, book.ofPlace(x, y, 0), 1);
                    Check.same(words, book.ofPlace(x, y, 2), 1);
                    Check.same(words, book.ofCell(size[0] * y + x, 0), x);
                    Check.same(words, book.ofCell(size[0] * y + x, 1), y);
                }
            }
            Check.same("as many COLUMNS as WIDE", book.many(2), size[0]);
            Check.same("as many ROWS as HIGH", book.many(3), size[1]);
        }
    }

    private static void layersFromTheLowest() {
        Creasebook book = Sheets.onePile();
        for (int layer = 0; layer < 32; layer++) {
            Check.same("LAYERS from 0 on", book.ofCell(book.at(0, 0, layer), 2), layer);
        }
        Check.same("the lowest one is LAYER 0", book.at(0, 0, 0), book.ofPlace(0, 0, 3));
        Check.same("the highest one is LAYER 31", book.at(0, 0, 31), book.ofPlace(0, 0, 1));
    }

    private static void seenWhateverHoles() {
        Creasebook book = Sheets.sheet(2, 1);
        book.fold(0, 1, NEAR, OVER);
        for (int holes = 1; holes <= 3; holes++) {
            book.punch(0, 0);
            Check.same("from above the highest CELL is seen, whatever HOLES", book.ofPlace(0, 0, 1), 0);
            Check.same("from below the lowest one is seen, whatever HOLES", book.ofPlace(0, 0, 3), 1);
            Check.same("no FRONT from above, whatever HOLES", book.many(12), 0);
            Check.same("no FRONT from below, whatever HOLES", book.many(13), 0);
        }
        book.ink(0, 0);
        Check.same("ink does not run through a HOLE", book.many(8), 1);
    }

    /** Each LINE from 1 to the length less 1, NEAR and FAR, OVER and UNDER, along both AXES. */
    private static void eachLineOfEachStrip() {
        for (int axis = 0; axis < 2; axis++) {
            for (int length = 2; length <= 8; length++) {
                for (int line = 1; line < length; line++) {
                    for (boolean isFar : BOTH) {
                        oneFoldOfAStrip(axis, length, line, isFar, OVER);
                        oneFoldOfAStrip(axis, length, line, isFar, UNDER);
                    }
                }
            }
        }
    }

    private static void oneFoldOfAStrip(int axis, int length, int line, boolean isFar, boolean isOver) {
        Creasebook book = Sheets.strip(axis, length);
        String words = "strip of " + length + " along AXIS " + axis + ", LINE " + line + (isFar ? " FAR" : " NEAR")
                + (isOver ? " OVER: " : " UNDER: ");
        Check.same(words + "one PAIR gets a CREASE", book.fold(axis, line, isFar, isOver), 1);
        Check.same(words + "it is the one at the LINE", book.ofPair(line - 1, axis == 1, 0), isOver ? 1 : 2);
        int least = 0;
        for (int cell = 0; cell < length; cell++) {
            least = cell == 0 ? goal(cell, line, isFar) : Math.min(least, goal(cell, line, isFar));
        }
        for (int cell = 0; cell < length; cell++) {
            int met = 2 * line - 1 - cell;
            boolean goes = isFar ? cell >= line : cell < line;
            boolean isAlone = met < 0 || met >= length;
            int layer = isAlone || goes != isOver ? 0 : 1;
            Check.same(words + "along of " + cell, book.ofCell(cell, axis), goal(cell, line, isFar) - least);
            Check.same(words + "across of " + cell, book.ofCell(cell, 1 - axis), 0);
            Check.same(words + "LAYER of " + cell, book.ofCell(cell, 2), layer);
            Check.same(words + "FRONT of " + cell, book.ofCell(cell, 3), goes ? 0 : 1);
        }
        Check.same(words + "how long it is", book.many(2 + axis), Math.max(line, length - line));
    }

    /** Where a CELL comes to, ahead of COLUMNS (ROWS) being numbered from 0 again. */
    private static int goal(int cell, int line, boolean isFar) {
        boolean goes = isFar ? cell >= line : cell < line;
        return goes ? 2 * line - 1 - cell : cell;
    }

    private static void eachLineOfRowsAndColumns() {
        Creasebook book = Sheets.sheet(3, 2);
        Check.same("through all rows", book.fold(0, 1, NEAR, OVER), 2);
        lie("the part below the LINE goes", book, "1 0', 2 / 4 3', 5");
        Check.same("through all LAYERS", book.fold(1, 1, FAR, UNDER), 3);
        lie("the PILE of each PLACE is turned round, and put below", book, "3 4' 1 0', 5' 2");
        Check.same("through all LAYERS", book.fold(0, 1, NEAR, OVER), 2);
        lie("the PILE is turned round, and put upon", book, "5' 2 0 1' 4 3'");
        book.sheet(2, 4);
        book.fold(1, 3, NEAR, UNDER);
        lie("rows are less by the least one", book, "4' 6, 5' 7 / 2', 3' / 0', 1'");
        book.fold(1, 1, FAR, OVER);
        lie("rows are numbered from 0 again", book, "0, 1 / 4' 6 2, 5' 7 3");
        book.sheet(4, 2);
        book.fold(0, 1, FAR, UNDER);
        lie("columns that come below 0", book, "3', 2', 1' 0 / 7', 6', 5' 4");
    }

    private static void linesThatAreNot() {
        for (int[] size : Sheets.sizes()) {
            for (int axis = 0; axis < 2; axis++) {
                int length = size[axis];
                Creasebook book = Sheets.sheet(size[0], size[1]);
                for (int line : new int[] {LOW, -length, -1, 0, length, length + 1, 8, 9, 1 << 29, TOP}) {
                    noFold(book, axis, line);
                }
            }
            Creasebook book = Sheets.sheet(size[0], size[1]);
            for (int axis : new int[] {LOW, -2, -1, 2, 3, 4, TOP}) {
                noFold(book, axis, 1);
            }
        }
    }

    private static void noFold(Creasebook book, int axis, int line) {
        String words = "(" + axis + ", " + line + ") of " + book.many(2) + " by " + book.many(3);
        for (boolean isFar : BOTH) {
            for (boolean isOver : BOTH) {
                Check.refuses("fold" + words, book, WRONG, () -> book.fold(axis, line, isFar, isOver));
                Check.refuses("would" + words, book, WRONG, () -> book.would(axis, line, isFar, isOver, 0));
            }
        }
    }

    private static void linesOfTheFormAlone() {
        Creasebook book = Sheets.sheet(8, 2);
        book.fold(0, 3, NEAR, OVER);
        Check.same("5 COLUMNS are left of 8", book.many(2), 5);
        noFold(book, 0, 5);
        noFold(book, 0, 7);
        Check.same("the last LINE of 5 COLUMNS", book.would(0, 4, FAR, OVER, 1), 8);
        Check.same("a FOLD at it", book.fold(0, 4, FAR, OVER), 2);
        noFold(book, 0, 4);
        Check.same("the last LINE of 2 ROWS", book.fold(1, 1, FAR, OVER), 8);
        noFold(book, 1, 1);
        book.unfold();
        book.unfold();
        Check.same("that LINE of 5 COLUMNS again", book.would(0, 4, NEAR, OVER, 1), 8);
        book.unfold();
        Check.same("the last LINE of 8 COLUMNS again", book.fold(0, 7, NEAR, UNDER), 2);
        Creasebook one = new Creasebook();
        noFold(one, 0, 1);
        noFold(one, 1, 1);
    }

    private static void eightFoldsAtATime() {
        Creasebook book = Sheets.sheet(8, 3);
        for (int time = 0; time < 3; time++) {
            for (int folds = 0; folds < 8; folds++) {
                Check.same("FOLDS that there are", book.many(4), folds);
                Check.isTrue("a FOLD while there are less than 8", book.fold(folds / 7, 1, NEAR, OVER) > 0);
            }
            for (boolean isFar : BOTH) {
                for (boolean isOver : BOTH) {
                    Check.refuses("8 FOLDS at most", book, STATE, () -> book.fold(1, 1, isFar, isOver));
                }
            }
            Check.refuses("8 FOLDS, and no such LINE", book, WRONG, () -> book.fold(1, 2, NEAR, OVER));
            Check.refuses("8 FOLDS, and no such AXIS", book, WRONG, () -> book.fold(2, 1, NEAR, OVER));
            Check.same("at a time: one less", book.unfold(), 7);
            Check.same("at a time: one more again", book.fold(1, 2, FAR, OVER), 8);
            for (int left = 7; left >= 0; left--) {
                Check.same("FOLDS that are left", book.unfold(), left);
            }
            Check.same("none is left", book.unfold(), NONE);
        }
    }

    private static void onlyFoldsCount() {
        Creasebook book = Sheets.sheet(2, 2);
        book.fold(0, 1, NEAR, OVER);
        for (int i = 0; i < 9; i++) {
            book.turn();
            book.round();
            book.ink(0, 0);
            book.dry();
            book.punch(0, 1);
        }
        Check.same("only a FOLD is one of 8", book.many(4), 1);
        Check.same("a second FOLD", book.fold(1, 1, NEAR, OVER), 2);
        book.sheet(3, 3);
        Check.same("a new SHEET has no FOLD", book.many(4), 0);
    }

    private static void pairsBySidesAlone() {
        Creasebook book = Sheets.sheet(3, 3);
        Check.same("0 and 1 by a side", book.ofPair(0, false, 0), 0);
        Check.same("0 and 3 by a side", book.ofPair(0, true, 0), 0);
        Check.same("2 and 3 are no PAIR, for a row ends between", book.ofPair(2, false, 0), NONE);
        Check.same("5 and 6 are no PAIR, for a row ends between", book.ofPair(5, false, 1), NONE);
        Check.same("6 is in the last row", book.ofPair(6, true, 0), NONE);
        Check.same("8 is the last one in both", book.ofPair(8, false, 0), NONE);
        Check.same("8 is the last one in both", book.ofPair(8, true, 0), NONE);
        Check.same("a PAIR in each of 3 rows gets a CREASE, none by a corner", book.fold(0, 1, NEAR, OVER), 3);
        Check.same("a PAIR in each of 3 columns gets one", book.fold(1, 1, NEAR, OVER), 3);
        Check.same("VALLEYS and MOUNTAINS", book.many(5) + book.many(6), 6);
        book.sheet(1, 8);
        for (int cell = 0; cell < 8; cell++) {
            Check.same("no CELL is beside in its row", book.ofPair(cell, false, 0), NONE);
            Check.same("one is in the next row", book.ofPair(cell, true, 0), cell < 7 ? 0 : NONE);
        }
    }

    private static void pairsAtTheLineAlone() {
        Creasebook book = Sheets.sheet(4, 1);
        book.fold(0, 2, NEAR, OVER);
        lie("2 and 1 have 3 and 0 beside them", book, "2 1', 3 0'");
        Check.same("1 and 0, 2 and 3 are PAIRS; 2 and 0, 1 and 3 are not", book.fold(0, 1, NEAR, UNDER), 2);
        book.sheet(8, 1);
        Check.same("the PAIR at the first LINE", book.fold(0, 1, NEAR, OVER), 1);
        Check.same("CREASE of 0 and 1", book.ofPair(0, false, 0), 1);
        for (int cell = 1; cell < 7; cell++) {
            Check.same("CREASE away from the LINE", book.ofPair(cell, false, 0), 0);
        }
        book.sheet(3, 2);
        book.fold(0, 1, FAR, OVER);
        lie("2' is not over the LINE", book, "2', 0 1' / 5', 3 4'");
        Check.same("PAIRS that come to lie at a LINE of rows", book.fold(1, 1, FAR, OVER), 3);
        Check.same("CELLS with a CREASE by each side: 1", book.ofCell(1, 7), 2);
        Check.same("CELLS with a CREASE by one side: 2", book.ofCell(2, 7), 1);
    }

    private static void creasedOnce() {
        Creasebook book = Sheets.sheet(2, 2);
        Check.same("two PAIRS without a CREASE get one", book.fold(0, 1, NEAR, OVER), 2);
        Check.same("a PAIR with a CREASE is no more at a LINE", book.fold(1, 1, NEAR, OVER), 2);
        Check.same("MARKS are 1 each", book.many(7), 4);
        Check.same("CREASE of 0 and 1 stays a VALLEY", book.ofPair(0, false, 0), 1);
        Check.same("CREASE of 2 and 3 stays a VALLEY", book.ofPair(2, false, 0), 1);
        book.unfold();
        book.unfold();
        Check.same("a PAIR whose CREASE is gone gets one again", book.fold(0, 1, NEAR, UNDER), 2);
        Check.same("this time a MOUNTAIN", book.ofPair(0, false, 0), 2);
        Check.same("MARKS are 2 then", book.ofPair(0, false, 1), 2);
    }

    private static void valleysAndMountains() {
        for (boolean isFar : BOTH) {
            for (boolean isTurned : BOTH) {
                for (boolean isOver : BOTH) {
                    Creasebook book = Sheets.sheet(1, 2);
                    if (isTurned) {
                        book.turn();
                    }
                    book.fold(1, 1, isFar, isOver);
                    String words = "FRONT is " + (isTurned ? "down" : "up") + ", " + (isOver ? "OVER" : "UNDER");
                    Check.same(words, book.ofPair(0, true, 0), isTurned != isOver ? 1 : 2);
                }
            }
        }
        Creasebook book = Sheets.sheet(4, 1);
        book.fold(0, 2, FAR, UNDER);
        lie("folded", book, "3' 0, 2' 1");
        book.fold(0, 1, FAR, UNDER);
        Check.same("of the CELL that goes, 1, FRONT is up: UNDER", book.ofPair(0, false, 0), 2);
        Check.same("of the CELL that goes, 2, FRONT is down: UNDER", book.ofPair(2, false, 0), 1);
        Check.same("the first CREASE stays", book.ofPair(1, false, 0), 2);
    }

    private static void marksAtEachCrease() {
        Creasebook book = Sheets.sheet(2, 1);
        for (int times = 1; times <= 20; times++) {
            book.fold(0, 1, times % 2 == 0, times % 3 == 0);
            Check.same("MARKS are 1 more", book.ofPair(0, false, 1), times);
            book.unfold();
            Check.same("MARKS stay", book.ofPair(0, false, 1), times);
            Check.same("the CREASE is gone", book.ofPair(0, false, 0), 0);
        }
        book.sheet(2, 1);
        Check.same("MARKS of a new SHEET", book.ofPair(0, false, 1), 0);
    }

    private static void unfoldWithoutAFold() {
        Creasebook book = new Creasebook();
        for (int times = 1; times <= 10; times++) {
            Check.same("that can not be, if there is no FOLD", book.unfold(), NONE);
            Check.same("how often it told NONE", book.many(15), times);
        }
        book.sheet(3, 1);
        book.turn();
        Check.same("a TURN is no FOLD", book.unfold(), NONE);
        lie("nothing is done then", book, "2', 1', 0'");
    }

    private static void unfoldOfWhatIsGlued() {
        Creasebook book = Sheets.sheet(2, 3);
        book.fold(0, 1, NEAR, OVER);
        book.turn();
        Check.same("one two of CELLS is glued, of three", book.glue(0, 2), 1);
        Check.same("a CELL of one part is glued to one of the other", book.unfold(), NONE);
        lie("nothing is done then", book, "0 1' / 2 3' / 4 5'");
        Check.same("FOLDS", book.many(4), 1);
        Check.same("CREASES", book.many(5), 3);
        Check.same("it stays so", book.unfold(), NONE);
        Check.same("a FOLD of what is glued can be", book.fold(1, 1, NEAR, OVER), 2);
        Check.same("and be unfolded", book.unfold(), 1);
        Check.same("but not the one below", book.unfold(), NONE);
        Check.same("three times NONE", book.many(15), 3);
    }

    private static void gluedInOnePart() {
        for (boolean isFar : BOTH) {
            Creasebook book = Sheets.sheet(4, 1);
            book.fold(0, 1, NEAR, OVER);
            lie("folded", book, "1 0', 2, 3");
            book.glue(0, 0);
            book.fold(0, 1, isFar, OVER);
            Check.same("glued in the part that " + (isFar ? "stays" : "goes"), book.unfold(), 1);
            Check.same("glued from one part to the other", book.unfold(), NONE);
        }
        gluedAcross();
        Creasebook alone = Sheets.sheet(4, 1);
        alone.fold(0, 1, FAR, OVER);
        lie("folded", alone, "3', 2', 0 1'");
        Check.same("a CELL alone has none to be glued to", alone.glue(0, 0), 0);
        Check.same("so it can be unfolded", alone.unfold(), 0);
    }

    /** One two alone is glued, of each PLACE in its turn: the first CELL and the last one hold as any other does. */
    private static void gluedAcross() {
        for (int axis = 0; axis < 2; axis++) {
            for (boolean isFar : BOTH) {
                for (boolean isOver : BOTH) {
                    for (int along = 0; along < 4; along++) {
                        Creasebook book = Sheets.strip(axis, 8);
                        book.fold(axis, 4, isFar, isOver);
                        book.glue(axis == 0 ? along : 0, axis == 0 ? 0 : along);
                        Check.same("one two is glued, at " + along, book.unfold(), NONE);
                    }
                }
            }
        }
    }

    private static void whatStaysBehindUnfold() {
        Creasebook book = Sheets.sheet(2, 2);
        book.ink(0, 0);
        book.fold(0, 1, NEAR, OVER);
        book.ink(0, 1);
        book.punch(0, 0);
        Check.same("unfold()", book.unfold(), 0);
        lie("all lies as it did ahead of the FOLD", book, "0, 1 / 2, 3");
        Check.same("CREASES of then", book.many(5) + book.many(6), 0);
        Check.same("MARKS stay", book.many(7), 2);
        Check.same("ink that was put stays", book.ofCell(0, 5), 2);
        Check.same("ink that has blotted stays", book.ofCell(1, 5), 2);
        Check.same("ink on the BACK of what was the highest one stays", book.ofCell(2, 6), 2);
        Check.same("HOLES stay, of one that went", book.ofCell(0, 4), 1);
        Check.same("HOLES stay, of one that did not", book.ofCell(1, 4), 1);
        Check.same("BLOTS stay", book.many(14), 1);
    }

    private static void turnedBehindTheFold() {
        Creasebook book = Sheets.sheet(3, 2);
        book.turn();
        book.fold(0, 1, NEAR, OVER);
        lie("turned ahead of the FOLD", book, "1' 2, 0' / 4' 5, 3'");
        book.round();
        book.turn();
        book.round();
        book.round();
        Check.same("unfold()", book.unfold(), 0);
        lie("what was turned behind that FOLD is as it was ahead of it", book, "2', 1', 0' / 5', 4', 3'");
    }

    private static void inkOfTheHighest() {
        Creasebook book = Sheets.sheet(2, 1);
        book.fold(0, 1, NEAR, OVER);
        Check.same("none", book.ofCell(0, 6), 0);
        book.ink(0, 0);
        Check.same("the side that is up of the highest CELL is WET", book.ofCell(0, 6), 2);
        Check.same("its other side is not", book.ofCell(0, 5), 0);
        book.turn();
        book.ink(0, 0);
        Check.same("the lowest one is the highest one then", book.ofCell(1, 6), 2);
        Check.same("WET sides", book.many(8), 2);
    }

    /** 0 none, 1 DRY, 2 WET: on both sides that come to touch. */
    private static void blotsOfEachTwoInks() {
        for (int going = 0; going <= 2; going++) {
            for (int lying = 0; lying <= 2; lying++) {
                for (boolean isFar : BOTH) {
                    blotOfTwo(going, lying, isFar, OVER);
                    blotOfTwo(going, lying, isFar, UNDER);
                }
            }
        }
    }

    private static void blotOfTwo(int going, int lying, boolean isFar, boolean isOver) {
        Creasebook book = Sheets.sheet(2, 1);
        int goer = isFar ? 1 : 0;
        putInk(book, goer, going);
        putInk(book, 1 - goer, lying);
        if (!isOver) {
            book.turn();
            book.round();
        }
        boolean isBlot = (going == 2) != (lying == 2);
        String words = going + " comes to touch " + lying + (isOver ? " OVER: " : " UNDER: ");
        int blots = isBlot ? 1 : 0;
        Check.same(words + "BLOTS of that FOLD", book.would(0, 1, isFar, isOver, 3), blots);
        book.fold(0, 1, isFar, isOver);
        Check.same(words + "BLOTS", book.many(14), blots);
        Check.same(words + "ink of what went", book.ofCell(goer, 5), isBlot ? 2 : going);
        Check.same(words + "ink of what lay there", book.ofCell(1 - goer, 5), isBlot ? 2 : lying);
        Check.same(words + "BACKS", book.ofCell(0, 6) + book.ofCell(1, 6), 0);
        book.unfold();
        book.fold(0, 1, isFar, isOver);
        Check.same(words + "BLOTS behind the same FOLD again", book.many(14), blots);
    }

    /** What is to be DRY is made so by dry(), which would leave the other CELL DRY, too: that one is inked again. */
    private static void putInk(Creasebook book, int cell, int state) {
        boolean otherIsWet = book.ofCell(1 - cell, 5) == 2;
        if (state > 0) {
            book.ink(cell, 0);
        }
        if (state == 1) {
            book.dry();
        }
        if (state == 1 && otherIsWet) {
            book.ink(1 - cell, 0);
        }
    }

    private static void blotsOfTheOuterSides() {
        Creasebook book = Sheets.sheet(4, 1);
        book.ink(0, 0);
        book.ink(1, 0);
        book.fold(0, 1, NEAR, OVER);
        lie("folded", book, "1 0', 2, 3");
        Check.same("both are WET", book.many(14), 0);
        book.fold(0, 1, NEAR, OVER);
        Check.same("what is WET within a PILE touches nothing new", book.many(14), 0);
        book.sheet(4, 1);
        book.fold(0, 2, NEAR, UNDER);
        lie("folded", book, "1' 2, 0' 3");
        book.ink(0, 0);
        Check.same("UNDER: what is up of the highest one touches nothing", book.would(0, 1, NEAR, UNDER, 3), 0);
        Check.same("OVER: it touches what is up of the highest one", book.would(0, 1, NEAR, OVER, 3), 1);
        book.turn();
        lie("turned", book, "3' 0, 2' 1");
        Check.same("OVER: what is down of the lowest one touches nothing", book.would(0, 1, FAR, OVER, 3), 0);
        Check.same("UNDER: it touches what is down of the lowest one", book.would(0, 1, FAR, UNDER, 3), 1);
        book.fold(0, 1, FAR, UNDER);
        Check.same("FRONT of 3 becomes WET", book.ofCell(3, 5), 2);
        Check.same("all that is WET: FRONTS of 2 and 3", book.many(8), 2);
    }

    private static void blotsWhereBothComeTogether() {
        Creasebook book = Sheets.sheet(8, 4);
        for (int y = 0; y < 4; y++) {
            book.ink(0, y);
            book.ink(1, y);
            book.ink(2, y);
        }
        Check.same("in each PLACE where both parts come together", book.would(0, 3, NEAR, OVER, 3), 12);
        Check.same("as many from the other part", book.would(0, 3, FAR, OVER, 3), 12);
        Check.same("0 touches 1, both are WET", book.would(0, 1, NEAR, OVER, 3), 0);
        Check.same("6 touches 5, 7 touches 4, none is WET", book.would(0, 6, FAR, OVER, 3), 0);
        Check.same("2 touches 5, 1 touches 6, 0 touches 7; 3 and 4 have none", book.would(0, 4, NEAR, OVER, 3), 12);
        Check.same("1 touches 2, both are WET; 0 touches 3", book.would(0, 2, NEAR, OVER, 3), 4);
        book.fold(0, 3, FAR, OVER);
        Check.same("each such one is a BLOT", book.many(14), 12);
        Check.same("what comes to no other one does not BLOT", book.ofCell(6, 5) + book.ofCell(7, 5), 0);
        Check.same("WET", book.many(8), 24);
    }

    private static void dryOfEachInk() {
        Creasebook book = Sheets.sheet(3, 1);
        book.ink(0, 0);
        book.dry();
        book.ink(1, 0);
        Check.same("all that is WET is DRY", book.dry(), 1);
        Check.same("what was DRY stays so", book.ofCell(0, 5), 1);
        Check.same("what was WET is DRY", book.ofCell(1, 5), 1);
        Check.same("what has none has none", book.ofCell(2, 5), 0);
    }

    private static void holesOfAllLayers() {
        Creasebook book = Sheets.onePile();
        book.punch(0, 0);
        book.punch(0, 0);
        for (int cell = 0; cell < 32; cell++) {
            Check.same("each CELL of its PILE has a HOLE more", book.ofCell(cell, 4), 2);
        }
        book.unfold();
        book.punch(0, 1);
        int more = 0;
        for (int cell = 0; cell < 32; cell++) {
            more += book.ofCell(cell, 4) - 2;
            Check.same("of its PILE alone", book.ofCell(cell, 4), 2 + book.ofCell(cell, 1));
        }
        Check.same("16 of them", more, 16);
    }

    private static void gluedTillANewSheet() {
        Creasebook book = Sheets.sheet(2, 1);
        book.fold(0, 1, NEAR, OVER);
        book.glue(0, 0);
        book.turn();
        book.round();
        book.dry();
        Check.same("glued from then on", book.ofPlace(0, 0, 6), 1);
        Check.same("glued from then on", book.unfold(), NONE);
        book.sheet(2, 1);
        book.fold(0, 1, NEAR, OVER);
        Check.same("till there is a new SHEET", book.ofPlace(0, 0, 6), 0);
        Check.same("till there is a new SHEET", book.unfold(), 0);
        Creasebook full = Sheets.onePile();
        Check.same("each two of 32 that lie just upon each other", full.glue(0, 0), 31);
        for (int i = 0; i < 3; i++) {
            Check.same("the last CELL is glued as the first one is", full.unfold(), NONE);
        }
    }

    private static void turnOfFewColumns() {
        Creasebook book = Sheets.sheet(1, 2);
        book.turn();
        lie("one COLUMN is its own mirror", book, "0' / 1'");
        book.sheet(2, 1);
        book.turn();
        lie("two COLUMNS change", book, "1', 0'");
        book.sheet(3, 1);
        book.turn();
        lie("the middle one of three stays", book, "2', 1', 0'");
        book.sheet(8, 1);
        book.turn();
        lie("eight COLUMNS", book, "7', 6', 5', 4', 3', 2', 1', 0'");
        Creasebook full = Sheets.onePile();
        int lowest = full.ofPlace(0, 0, 3);
        int highest = full.ofPlace(0, 0, 1);
        full.turn();
        Check.same("the lowest LAYER is the highest one then", full.ofPlace(0, 0, 1), lowest);
        Check.same("the highest LAYER is the lowest one then", full.ofPlace(0, 0, 3), highest);
    }

    private static void roundOfFew() {
        Creasebook book = Sheets.sheet(1, 3);
        book.round();
        lie("rows are mirrored", book, "2 / 1 / 0");
        book.sheet(3, 1);
        book.round();
        lie("columns are mirrored", book, "2, 1, 0");
        book.fold(0, 1, NEAR, OVER);
        lie("folded", book, "1 2', 0");
        book.round();
        lie("PILES stay", book, "0, 1 2'");
    }

    private static void cornersWithinTheSheet() {
        for (int[] size : Sheets.sizes()) {
            Creasebook book = Sheets.sheet(size[0], size[1]);
            for (int y = -1; y <= size[1] + 1; y++) {
                for (int x = -1; x <= size[0] + 1; x++) {
                    int cornerX = x;
                    int cornerY = y;
                    boolean is = x >= 1 && x <= size[0] - 1 && y >= 1 && y <= size[1] - 1;
                    Object due = is ? (Object) 0 : "IndexOutOfBoundsException";
                    Check.same("CORNER (" + x + ", " + y + ") of " + size[0] + " by " + size[1],
                            Check.outcome(() -> book.ofCorner(cornerX, cornerY, 0)), due);
                }
            }
        }
        Creasebook full = Sheets.onePile();
        Check.same("a CORNER of the SHEET, though the FORM is one PLACE", full.ofCorner(7, 3, 0), 4);
        Check.same("a CORNER of the SHEET, though the FORM is one PLACE", full.ofCorner(1, 1, 2), 4);
    }

    private static void balanceOfCorners() {
        Creasebook book = Sheets.sheet(2, 2);
        Check.same("no CREASE", book.ofCorner(1, 1, 1), 0);
        book.fold(0, 1, NEAR, OVER);
        Check.same("less two VALLEYS", book.ofCorner(1, 1, 1), -2);
        book.fold(1, 1, NEAR, OVER);
        Check.same("a MOUNTAIN less three VALLEYS", book.ofCorner(1, 1, 1), -2);
        book.unfold();
        book.unfold();
        Check.same("no CREASE is left", book.ofCorner(1, 1, 1), 0);
        book.fold(1, 1, FAR, UNDER);
        Check.same("two MOUNTAINS", book.ofCorner(1, 1, 1), 2);
        book.fold(0, 1, FAR, UNDER);
        Check.same("three MOUNTAINS less a VALLEY", book.ofCorner(1, 1, 1), 2);
    }

    /**
     * In a strip of PILES of two, each FOLD at a LINE puts another CELL just upon another one: so bring() tells the
     * CODE of each FOLD, from 8 (LINE 1 of columns, NEAR, UNDER) to 63 (LINE 7 of rows, FAR, OVER).
     */
    private static void codesFromLeastToGreatest() {
        for (int axis = 0; axis < 2; axis++) {
            Creasebook book = axis == 0 ? Sheets.sheet(8, 2) : Sheets.sheet(2, 8);
            book.fold(1 - axis, 1, NEAR, OVER);
            for (int line = 1; line < 8; line++) {
                int lowNear = book.at(axis == 0 ? line - 1 : 0, axis == 0 ? 0 : line - 1, 0);
                int highNear = book.at(axis == 0 ? line - 1 : 0, axis == 0 ? 0 : line - 1, 1);
                int lowFar = book.at(axis == 0 ? line : 0, axis == 0 ? 0 : line, 0);
                int highFar = book.at(axis == 0 ? line : 0, axis == 0 ? 0 : line, 1);
                int code = 8 * line + 4 * axis;
                Check.same("CODE of NEAR, UNDER", book.bring(lowNear, lowFar), code);
                Check.same("CODE of NEAR, OVER", book.bring(highFar, highNear), code + 1);
                Check.same("CODE of FAR, UNDER", book.bring(lowFar, lowNear), code + 2);
                Check.same("CODE of FAR, OVER", book.bring(highNear, highFar), code + 3);
            }
        }
    }

    private static void fiveHundredAndTwelveCalls() {
        Creasebook book = new Creasebook();
        book.sheet(8, 4);
        book.fold(0, 4, NEAR, OVER);
        for (int call = 3; call <= 511; call++) {
            book.punch(0, 0);
        }
        Check.same("the 512th call", book.many(10), 2 * 509);
        Creasebook folded = new Creasebook();
        folded.sheet(8, 4);
        for (int call = 2; call <= 511; call += 2) {
            folded.fold(0, 4, FAR, UNDER);
            folded.unfold();
        }
        Check.same("the 512th call", folded.many(7), 4 * 255);
        Creasebook empty = new Creasebook();
        for (int call = 1; call <= 511; call++) {
            empty.unfold();
        }
        Check.same("the 512th call", empty.many(15), 511);
    }
}
