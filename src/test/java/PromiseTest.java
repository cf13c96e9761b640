/** Each promise of the document by examples whose answers were worked out by hand from its words. */
public final class PromiseTest {
    private static final int NONE = -1;
    private static final boolean NEAR = false;
    private static final boolean FAR = true;
    private static final boolean UNDER = false;
    private static final boolean OVER = true;
    private static final Class<?> WRONG = IllegalArgumentException.class;
    private static final Class<?> STATE = IllegalStateException.class;
    private static final Class<?> INDEX = IndexOutOfBoundsException.class;
    private static final int LOW = Integer.MIN_VALUE;
    private static final int TOP = Integer.MAX_VALUE;

    public static void main(String[] args) {
        promise1NewObject();
        promise2Sheet();
        promise2ForgetsAll();
        promise3FoldOfColumns();
        promise3FoldOfRows();
        promise3FoldPastTheEdge();
        promise3Creases();
        promise3Blots();
        promise3Refuses();
        promise4Unfold();
        promise4Glue();
        promise5Turn();
        promise6Round();
        promise7Ink();
        promise8Dry();
        promise9Punch();
        promise10Glue();
        promise11OfPlace();
        promise12At();
        promise13OfCell();
        promise14OfPair();
        promise15OfCorner();
        promise16Many();
        promise17Weight();
        promise18Would();
        promise19BestFold();
        promise20Bring();
        promise21Fewest();
        promise22Digest();
        Check.end("PromiseTest");
    }

    private static void lie(String when, Creasebook book, String due) {
        Check.same("how it lies " + when, Sheets.lies(book), due);
    }

    private static void many(Creasebook book, int... due) {
        for (int what = 0; what < due.length; what++) {
            Check.same("many(" + what + ")", book.many(what), due[what]);
        }
    }

    private static void promise1NewObject() {
        Creasebook book = new Creasebook();
        many(book, 1, 1, 1, 1, 0, 0, 0, 0, 0, 0, 0, 1, 1, 0, 0, 0);
        lie("as new", book, "0");
    }

    private static void promise2Sheet() {
        Creasebook book = new Creasebook();
        Check.same("sheet(3, 2)", book.sheet(3, 2), 6);
        lie("as told", book, "0, 1, 2 / 3, 4, 5");
        many(book, 3, 2, 3, 2, 0, 0, 0, 0, 0, 0, 0, 1, 6, 0, 0, 0);
        Check.same("sheet(8, 4)", book.sheet(8, 4), 32);
        Check.same("sheet(4, 8)", book.sheet(4, 8), 32);
        Check.same("sheet(5, 6)", book.sheet(5, 6), 30);
        Check.same("sheet(1, 8)", book.sheet(1, 8), 8);
        Check.same("sheet(8, 1)", book.sheet(8, 1), 8);
        Check.same("sheet(1, 1)", book.sheet(1, 1), 1);
        book.sheet(2, 3);
        book.fold(0, 1, NEAR, OVER);
        int[][] wrong = {{0, 1}, {1, 0}, {9, 1}, {1, 9}, {8, 5}, {5, 8}, {6, 6}, {-1, -1}, {-4, 4}, {LOW, 1}, {1, TOP},
            {1 << 16, 1 << 16}, {0, 0}};
        for (int[] sides : wrong) {
            Check.refuses("sheet(" + sides[0] + ", " + sides[1] + ")", book, WRONG,
                    () -> book.sheet(sides[0], sides[1]));
        }
    }

    private static void promise2ForgetsAll() {
        Creasebook book = Sheets.sheet(4, 4);
        book.ink(0, 0);
        book.dry();
        book.ink(1, 1);
        book.fold(0, 2, NEAR, OVER);
        book.fold(1, 1, FAR, UNDER);
        book.punch(0, 0);
        book.glue(0, 2);
        Check.same("unfold() of what is glued", book.unfold(), NONE);
        Check.isTrue("a BLOT is there to be forgotten", book.many(14) > 0);
        book.sheet(2, 2);
        Check.same("digest() of a SHEET told anew", book.digest(), Sheets.sheet(2, 2).digest());
        book.fold(0, 1, NEAR, OVER);
        Check.same("unfold() of a SHEET told anew", book.unfold(), 0);
        Check.same("unfold() without a FOLD", book.unfold(), NONE);
    }

    private static void promise3FoldOfColumns() {
        Creasebook book = Sheets.sheet(4, 1);
        Check.same("fold", book.fold(0, 1, NEAR, OVER), 1);
        lie("behind a NEAR FOLD over", book, "1 0', 2, 3");
        Check.same("fold", book.fold(0, 2, FAR, UNDER), 1);
        lie("behind a FAR FOLD under", book, "1 0', 3' 2");
        Check.same("fold", book.fold(0, 1, FAR, OVER), 1);
        lie("behind a FAR FOLD over", book, "1 0' 2' 3");
        book.sheet(4, 2);
        Check.same("fold", book.fold(0, 2, NEAR, UNDER), 2);
        lie("behind a NEAR FOLD under", book, "1' 2, 0' 3 / 5' 6, 4' 7");
        Check.same("fold", book.fold(0, 1, NEAR, UNDER), 4);
        lie("behind a FOLD of PILES under", book, "2' 1 0' 3 / 6' 5 4' 7");
    }

    private static void promise3FoldOfRows() {
        Creasebook book = Sheets.sheet(2, 4);
        Check.same("fold", book.fold(1, 1, NEAR, OVER), 2);
        lie("behind a NEAR FOLD over", book, "2 0', 3 1' / 4, 5 / 6, 7");
        Check.same("fold", book.fold(1, 2, FAR, UNDER), 2);
        lie("behind a FAR FOLD under", book, "2 0', 3 1' / 6' 4, 7' 5");
        Check.same("fold", book.fold(0, 1, FAR, OVER), 4);
        lie("behind a FOLD along the other AXIS", book, "2 0' 1 3' / 6' 4 5' 7");
    }

    private static void promise3FoldPastTheEdge() {
        Creasebook book = Sheets.sheet(4, 1);
        book.fold(0, 1, FAR, OVER);
        lie("as the FAR part is the longer one", book, "3', 2', 0 1'");
        book.sheet(4, 1);
        book.fold(0, 3, NEAR, UNDER);
        lie("as the NEAR part is the longer one", book, "2' 3, 1', 0'");
        book.sheet(1, 3);
        book.fold(1, 1, FAR, UNDER);
        lie("as the far rows are more", book, "2' / 1' 0");
        book.sheet(1, 3);
        book.fold(1, 2, NEAR, OVER);
        lie("as the near rows are more", book, "2 1' / 0'");
    }

    private static void promise3Creases() {
        boolean[] both = {false, true};
        for (boolean isFar : both) {
            for (boolean isOver : both) {
                Creasebook up = Sheets.sheet(2, 1);
                up.fold(0, 1, isFar, isOver);
                Check.same("CREASE as FRONT is up", up.ofPair(0, false, 0), isOver ? 1 : 2);
                Creasebook down = Sheets.sheet(1, 2);
                down.turn();
                down.fold(1, 1, isFar, isOver);
                Check.same("CREASE as FRONT is down", down.ofPair(0, true, 0), isOver ? 2 : 1);
            }
        }
        Creasebook book = Sheets.sheet(4, 1);
        book.fold(0, 2, NEAR, OVER);
        lie("behind the first FOLD", book, "2 1', 3 0'");
        Check.same("fold", book.fold(0, 1, FAR, OVER), 2);
        Check.same("CREASE of 0 and 1, FRONT of 0 down", book.ofPair(0, false, 0), 2);
        Check.same("CREASE of 1 and 2 of the first FOLD", book.ofPair(1, false, 0), 1);
        Check.same("CREASE of 2 and 3, FRONT of 3 up", book.ofPair(2, false, 0), 1);
        Check.same("MARKS of 1 and 2", book.ofPair(1, false, 1), 1);
    }

    private static void promise3Blots() {
        Creasebook book = Sheets.sheet(3, 1);
        book.ink(0, 0);
        book.fold(0, 1, NEAR, OVER);
        Check.same("FRONT of 1 touches FRONT of 0", book.ofCell(1, 5), 2);
        Check.same("BLOTS", book.many(14), 1);
        book.fold(0, 1, FAR, OVER);
        Check.same("BACK of 0 touches FRONT of 2: neither is WET", book.ofCell(2, 5), 0);
        Check.same("BLOTS", book.many(14), 1);
        book.sheet(2, 1);
        book.ink(0, 0);
        book.fold(0, 1, NEAR, UNDER);
        Check.same("BACKS touch, FRONT is WET", book.many(14), 0);
        book.sheet(2, 1);
        book.turn();
        book.ink(0, 0);
        book.turn();
        book.fold(0, 1, FAR, UNDER);
        Check.same("BACKS touch, one is WET", book.ofCell(0, 6), 2);
        Check.same("BLOTS", book.many(14), 1);
        book.unfold();
        book.fold(0, 1, FAR, UNDER);
        Check.same("BLOTS as both are WET", book.many(14), 1);
        book.sheet(2, 1);
        book.ink(1, 0);
        book.dry();
        book.fold(0, 1, NEAR, OVER);
        Check.same("ink that is DRY does not BLOT", book.ofCell(0, 5), 0);
        book.unfold();
        book.ink(0, 0);
        book.fold(0, 1, NEAR, OVER);
        Check.same("what is DRY becomes WET", book.ofCell(1, 5), 2);
        book.sheet(3, 1);
        book.ink(0, 0);
        book.fold(0, 2, NEAR, OVER);
        Check.same("what comes to no PILE touches nothing", book.many(14), 0);
    }

    private static void promise3Refuses() {
        Creasebook book = Sheets.sheet(3, 2);
        int[][] wrong = {{0, 0}, {0, 3}, {1, 0}, {1, 2}, {2, 1}, {-1, 1}, {0, -1}, {0, LOW}, {0, TOP}, {TOP, 1},
            {LOW, 0}};
        for (int[] way : wrong) {
            Check.refuses("fold(" + way[0] + ", " + way[1] + ")", book, WRONG,
                    () -> book.fold(way[0], way[1], NEAR, OVER));
        }
        book.fold(0, 2, FAR, OVER);
        Check.refuses("fold at a LINE that was", book, WRONG, () -> book.fold(0, 2, FAR, OVER));
        Creasebook all = Sheets.eightFolds();
        Check.refuses("a ninth FOLD", all, STATE, () -> all.fold(1, 1, NEAR, OVER));
        Check.refuses("a ninth FOLD without a LINE", all, WRONG, () -> all.fold(0, 1, NEAR, OVER));
        Check.refuses("a ninth FOLD without an AXIS", all, WRONG, () -> all.fold(2, 1, NEAR, OVER));
        all.unfold();
        Check.same("an eighth FOLD again", all.fold(1, 2, FAR, UNDER), 8);
    }

    private static void promise4Unfold() {
        Creasebook book = Sheets.sheet(4, 2);
        Check.same("unfold() without a FOLD", book.unfold(), NONE);
        Check.same("such ones", book.many(15), 1);
        book.fold(0, 1, NEAR, OVER);
        String first = Sheets.lies(book);
        book.fold(1, 1, FAR, OVER);
        book.ink(0, 0);
        book.punch(0, 0);
        book.turn();
        book.round();
        Check.same("unfold()", book.unfold(), 1);
        lie("behind unfold()", book, first);
        Check.same("CREASES of then", book.many(5) + book.many(6), 2);
        Check.same("MARKS stay", book.many(7), 6);
        Check.same("ink stays", book.many(8), 1);
        Check.same("HOLES stay", book.many(10), 4);
        Check.same("unfold()", book.unfold(), 0);
        lie("behind the last unfold()", book, "0, 1, 2, 3 / 4, 5, 6, 7");
        Check.same("no CREASES", book.many(5) + book.many(6), 0);
        Check.same("MARKS stay", book.many(7), 6);
        book.fold(0, 1, NEAR, OVER);
        Check.same("MARKS of a PAIR that is CREASED again", book.ofPair(0, false, 1), 2);
        book.turn();
        book.fold(0, 2, NEAR, OVER);
        book.unfold();
        lie("as turned ahead of the FOLD", book, "3', 2', 0 1' / 7', 6', 4 5'");
    }

    private static void promise4Glue() {
        Creasebook book = Sheets.sheet(4, 1);
        book.fold(0, 2, NEAR, OVER);
        book.glue(0, 0);
        Check.same("unfold() of parts that are glued", book.unfold(), NONE);
        Check.same("FOLDS", book.many(4), 1);
        lie("as it is held", book, "2 1', 3 0'");
        Check.same("fold of what is glued", book.fold(0, 1, FAR, OVER), 2);
        Check.same("unfold() of a part glued in itself", book.unfold(), 1);
        Check.same("unfold() of parts that are still glued", book.unfold(), NONE);
        Check.same("such ones", book.many(15), 2);
        Check.same("how many were glued", book.glue(1, 0), 1);
        book.fold(0, 1, NEAR, UNDER);
        book.glue(0, 0);
        Check.same("unfold() of all glued", book.unfold(), NONE);
        Check.same("such ones", book.many(15), 3);
    }

    private static void promise5Turn() {
        Creasebook book = Sheets.sheet(3, 1);
        Check.same("turn()", book.turn(), 0);
        lie("turned", book, "2', 1', 0'");
        Check.same("turn()", book.turn(), 3);
        lie("turned twice", book, "0, 1, 2");
        book.fold(0, 1, NEAR, UNDER);
        lie("folded", book, "0' 1, 2");
        Check.same("turn()", book.turn(), 1);
        lie("folded and turned", book, "2', 1' 0");
        book.sheet(2, 2);
        book.turn();
        lie("rows stay", book, "1', 0' / 3', 2'");
    }

    private static void promise6Round() {
        Creasebook book = Sheets.sheet(3, 2);
        Check.same("round()", book.round(), 5);
        lie("round", book, "5, 4, 3 / 2, 1, 0");
        Check.same("round()", book.round(), 0);
        book.fold(0, 2, FAR, OVER);
        Check.same("round()", book.round(), 5);
        lie("folded and round", book, "4 5', 3 / 1 2', 0");
    }

    private static void refusePlaces(String call, Creasebook book, int columns, int rows) {
        int[][] wrong = {{-1, 0}, {0, -1}, {columns, 0}, {0, rows}, {LOW, 0}, {0, TOP}, {TOP, TOP}, {LOW, LOW}};
        for (int[] place : wrong) {
            String words = call + "(" + place[0] + ", " + place[1] + ")";
            if (call.equals("ink")) {
                Check.refuses(words, book, INDEX, () -> book.ink(place[0], place[1]));
            } else if (call.equals("punch")) {
                Check.refuses(words, book, INDEX, () -> book.punch(place[0], place[1]));
            } else if (call.equals("glue")) {
                Check.refuses(words, book, INDEX, () -> book.glue(place[0], place[1]));
            } else if (call.equals("ofPlace")) {
                Check.refuses(words, book, INDEX, () -> book.ofPlace(place[0], place[1], 0));
                Check.refuses(words + ", 7", book, INDEX, () -> book.ofPlace(place[0], place[1], 7));
            } else {
                Check.refuses(words, book, INDEX, () -> book.at(place[0], place[1], 0));
            }
        }
    }

    private static void promise7Ink() {
        Creasebook book = Sheets.sheet(3, 1);
        Check.same("ink(0, 0)", book.ink(0, 0), true);
        Check.same("ink(0, 0) again", book.ink(0, 0), false);
        Check.same("its FRONT", book.ofCell(0, 5), 2);
        Check.same("its BACK", book.ofCell(0, 6), 0);
        book.dry();
        Check.same("ink on what is DRY", book.ink(0, 0), true);
        book.fold(0, 2, FAR, OVER);
        Check.same("ink on a PILE", book.ink(1, 0), true);
        Check.same("the BACK of the highest CELL", book.ofCell(2, 6), 2);
        Check.same("its FRONT", book.ofCell(2, 5), 0);
        Check.same("the CELL below it", book.ofCell(1, 5) + book.ofCell(1, 6), 0);
        refusePlaces("ink", book, 2, 1);
    }

    private static void promise8Dry() {
        Creasebook book = Sheets.sheet(2, 2);
        Check.same("dry() of nothing", book.dry(), 0);
        book.ink(0, 0);
        book.ink(1, 1);
        book.turn();
        book.ink(0, 0);
        Check.same("dry()", book.dry(), 3);
        Check.same("FRONT of 0", book.ofCell(0, 5), 1);
        Check.same("BACK of 1", book.ofCell(1, 6), 1);
        Check.same("FRONT of 1", book.ofCell(1, 5), 0);
        Check.same("dry() again", book.dry(), 0);
        book.ink(0, 0);
        Check.same("dry() of one", book.dry(), 1);
        Check.same("DRY", book.many(9), 3);
    }

    private static void promise9Punch() {
        Creasebook book = Sheets.sheet(3, 1);
        Check.same("punch(2, 0)", book.punch(2, 0), 1);
        book.fold(0, 2, FAR, UNDER);
        Check.same("punch(1, 0)", book.punch(1, 0), 2);
        Check.same("HOLES of 0", book.ofCell(0, 4), 0);
        Check.same("HOLES of 1", book.ofCell(1, 4), 1);
        Check.same("HOLES of 2", book.ofCell(2, 4), 2);
        Check.same("what is seen stays", book.ofPlace(1, 0, 1), 1);
        refusePlaces("punch", book, 2, 1);
    }

    private static void promise10Glue() {
        Creasebook book = Sheets.sheet(4, 1);
        Check.same("glue of one CELL", book.glue(0, 0), 0);
        book.fold(0, 2, NEAR, OVER);
        Check.same("glue of two", book.glue(1, 0), 1);
        Check.same("glue again", book.glue(1, 0), 0);
        book.fold(0, 1, NEAR, OVER);
        lie("folded", book, "3 0' 1 2'");
        Check.same("glue of four, two of them glued", book.glue(0, 0), 2);
        Check.same("glued ones", book.ofPlace(0, 0, 6), 3);
        refusePlaces("glue", book, 1, 1);
        book.sheet(4, 1);
        book.fold(0, 2, NEAR, OVER);
        Check.same("glue of a new SHEET", book.glue(1, 0), 1);
    }

    private static void promise11OfPlace() {
        Creasebook book = Sheets.sheet(3, 2);
        book.punch(0, 0);
        book.punch(0, 0);
        book.fold(0, 1, NEAR, OVER);
        book.punch(0, 0);
        lie("folded", book, "1 0', 2 / 4 3', 5");
        int[] due = {2, 0, 0, 1, 1, 4, 0};
        for (int what = 0; what < due.length; what++) {
            Check.same("ofPlace(0, 0, " + what + ")", book.ofPlace(0, 0, what), due[what]);
        }
        book.turn();
        book.glue(1, 1);
        int[] turned = {2, 4, 0, 3, 1, 0, 1};
        for (int what = 0; what < turned.length; what++) {
            Check.same("ofPlace(1, 1, " + what + ")", book.ofPlace(1, 1, what), turned[what]);
        }
        refusePlaces("ofPlace", book, 2, 2);
        for (int what : new int[] {-1, 7, LOW, TOP}) {
            Check.refuses("ofPlace(0, 0, " + what + ")", book, WRONG, () -> book.ofPlace(0, 0, what));
        }
    }

    private static void promise12At() {
        Creasebook book = Sheets.sheet(3, 1);
        book.fold(0, 1, NEAR, OVER);
        Check.same("at(0, 0, 0)", book.at(0, 0, 0), 1);
        Check.same("at(0, 0, 1)", book.at(0, 0, 1), 0);
        Check.same("at(1, 0, 0)", book.at(1, 0, 0), 2);
        refusePlaces("at", book, 2, 1);
        for (int layer : new int[] {-1, 1, LOW, TOP}) {
            Check.refuses("at(1, 0, " + layer + ")", book, INDEX, () -> book.at(1, 0, layer));
        }
    }

    private static void promise13OfCell() {
        Creasebook book = Sheets.sheet(3, 2);
        book.fold(0, 1, FAR, OVER);
        lie("folded", book, "2', 0 1' / 5', 3 4'");
        book.ink(1, 1);
        book.dry();
        book.punch(1, 1);
        book.fold(1, 1, NEAR, OVER);
        lie("folded twice", book, "5' 2, 3 4' 1 0'");
        book.ink(0, 0);
        int[] of4 = {1, 0, 1, 0, 1, 0, 1, 2};
        int[] of2 = {0, 0, 1, 1, 0, 2, 0, 1};
        int[] of0 = {1, 0, 3, 0, 0, 0, 0, 2};
        for (int what = 0; what < 8; what++) {
            Check.same("ofCell(4, " + what + ")", book.ofCell(4, what), of4[what]);
            Check.same("ofCell(2, " + what + ")", book.ofCell(2, what), of2[what]);
            Check.same("ofCell(0, " + what + ")", book.ofCell(0, what), of0[what]);
        }
        for (int cell : new int[] {-1, 6, LOW, TOP, 32}) {
            Check.refuses("ofCell(" + cell + ", 0)", book, INDEX, () -> book.ofCell(cell, 0));
            Check.refuses("ofCell(" + cell + ", 8)", book, INDEX, () -> book.ofCell(cell, 8));
        }
        for (int what : new int[] {-1, 8, LOW, TOP}) {
            Check.refuses("ofCell(0, " + what + ")", book, WRONG, () -> book.ofCell(0, what));
        }
    }

    private static void promise14OfPair() {
        Creasebook book = Sheets.sheet(2, 2);
        book.fold(0, 1, NEAR, OVER);
        Check.same("ofPair(0, false, 0)", book.ofPair(0, false, 0), 1);
        Check.same("ofPair(2, false, 1)", book.ofPair(2, false, 1), 1);
        Check.same("ofPair(0, true, 0)", book.ofPair(0, true, 0), 0);
        book.fold(1, 1, NEAR, OVER);
        lie("folded", book, "3 2' 0 1'");
        Check.same("ofPair(0, true, 0)", book.ofPair(0, true, 0), 2);
        Check.same("ofPair(1, true, 0)", book.ofPair(1, true, 0), 1);
        book.unfold();
        Check.same("ofPair(1, true, 0)", book.ofPair(1, true, 0), 0);
        Check.same("ofPair(1, true, 1)", book.ofPair(1, true, 1), 1);
        Check.same("right of the last column", book.ofPair(1, false, 0), NONE);
        Check.same("below the last row", book.ofPair(2, true, 1), NONE);
        Check.same("of one column", Sheets.sheet(1, 3).ofPair(0, false, 0), NONE);
        Check.refuses("ofPair(1, false, 2)", book, WRONG, () -> book.ofPair(1, false, 2));
        Check.refuses("ofPair(0, false, -1)", book, WRONG, () -> book.ofPair(0, false, -1));
        for (int cell : new int[] {-1, 4, LOW, TOP}) {
            Check.refuses("ofPair(" + cell + ", true, 0)", book, INDEX, () -> book.ofPair(cell, true, 0));
            Check.refuses("ofPair(" + cell + ", true, 9)", book, INDEX, () -> book.ofPair(cell, true, 9));
        }
    }

    private static void promise15OfCorner() {
        Creasebook book = Sheets.sheet(3, 3);
        book.fold(0, 1, NEAR, OVER);
        Check.same("CREASES, both above and below", book.ofCorner(1, 1, 0), 2);
        Check.same("BALANCE of two VALLEYS", book.ofCorner(1, 1, 1), -2);
        Check.same("CREASES of another CORNER", book.ofCorner(2, 1, 0), 0);
        book.fold(1, 1, NEAR, OVER);
        Check.same("CREASES", book.ofCorner(1, 1, 0), 4);
        Check.same("BALANCE of a MOUNTAIN and three VALLEYS", book.ofCorner(1, 1, 1), -2);
        Check.same("CREASES, both beside each other", book.ofCorner(2, 1, 0), 2);
        Check.same("CREASES below", book.ofCorner(1, 2, 0), 2);
        Check.same("CREASES of the last CORNER", book.ofCorner(2, 2, 0), 0);
        book.unfold();
        Check.same("CREASES behind unfold()", book.ofCorner(1, 1, 0), 2);
        Check.same("MARKS behind unfold()", book.ofCorner(1, 1, 2), 4);
        book.sheet(2, 2);
        book.fold(0, 1, NEAR, UNDER);
        Check.same("BALANCE of two MOUNTAINS", book.ofCorner(1, 1, 1), 2);
        Creasebook wider = Sheets.sheet(3, 2);
        int[][] wrong = {{0, 1}, {1, 0}, {3, 1}, {1, 2}, {-1, 1}, {LOW, 1}, {1, TOP}};
        for (int[] corner : wrong) {
            String words = "ofCorner(" + corner[0] + ", " + corner[1] + ")";
            Check.refuses(words, wider, INDEX, () -> wider.ofCorner(corner[0], corner[1], 0));
            Check.refuses(words + " and a wrong number", wider, INDEX, () -> wider.ofCorner(corner[0], corner[1], 3));
        }
        Check.refuses("ofCorner(1, 1, 3)", wider, WRONG, () -> wider.ofCorner(1, 1, 3));
        Check.refuses("ofCorner(2, 1, -1)", wider, WRONG, () -> wider.ofCorner(2, 1, -1));
        Check.refuses("a CORNER of one CELL", new Creasebook(), INDEX, () -> new Creasebook().ofCorner(1, 1, 0));
    }

    private static void promise16Many() {
        Creasebook book = Sheets.sheet(4, 2);
        book.unfold();
        book.unfold();
        book.ink(0, 0);
        book.ink(1, 0);
        book.dry();
        book.ink(0, 1);
        book.punch(3, 1);
        book.fold(0, 1, NEAR, OVER);
        lie("folded", book, "1 0', 2, 3 / 5 4', 6, 7");
        many(book, 4, 2, 3, 2, 1, 2, 0, 2, 2, 2, 1, 2, 4, 0, 1, 2);
        book.fold(0, 2, FAR, UNDER);
        lie("folded twice", book, "1 0', 3' 2 / 5 4', 7' 6");
        many(book, 4, 2, 2, 2, 2, 2, 2, 4, 2, 2, 1, 2, 2, 2, 1, 2);
        book.unfold();
        many(book, 4, 2, 3, 2, 1, 2, 0, 4, 2, 2, 1, 2, 4, 0, 1, 2);
        for (int what : new int[] {-1, 16, LOW, TOP}) {
            Check.refuses("many(" + what + ")", book, WRONG, () -> book.many(what));
        }
    }

    private static void promise17Weight() {
        Creasebook book = Sheets.sheet(4, 3);
        Check.same("weight(0)", book.weight(0), 1.5);
        Check.same("weight(1)", book.weight(1), 1.0);
        book.sheet(3, 1);
        book.fold(0, 1, NEAR, OVER);
        Check.same("a third, to a quarter", book.weight(0), 0.25);
        book.turn();
        Check.same("two thirds, to three quarters", book.weight(0), 0.75);
        book.sheet(8, 1);
        book.fold(0, 1, NEAR, OVER);
        Check.same("21 eighths, to ten quarters", book.weight(0), 2.5);
        book.turn();
        Check.same("27 eighths, to fourteen quarters", book.weight(0), 3.5);
        Check.same("no weight on one row", book.weight(1), 0.0);
        book.sheet(1, 8);
        book.fold(1, 3, FAR, OVER);
        Check.same("as it lies, 19 eighths, to ten quarters", book.weight(1), 2.5);
        for (int axis : new int[] {-1, 2, LOW, TOP}) {
            Check.refuses("weight(" + axis + ")", book, WRONG, () -> book.weight(axis));
        }
    }

    private static void would(Creasebook book, int axis, int line, boolean isFar, boolean isOver, int... due) {
        long before = book.digest();
        for (int what = 0; what < 4; what++) {
            Check.same("would(" + axis + ", " + line + ", " + isFar + ", " + isOver + ", " + what + ")",
                    book.would(axis, line, isFar, isOver, what), due[what]);
        }
        Check.same("digest() behind would()", book.digest(), before);
    }

    private static void promise18Would() {
        Creasebook book = Sheets.sheet(4, 2);
        book.ink(0, 0);
        book.ink(3, 1);
        would(book, 0, 1, NEAR, OVER, 2, 6, 4, 1);
        would(book, 0, 2, FAR, OVER, 2, 4, 0, 2);
        would(book, 0, 2, NEAR, UNDER, 2, 4, 4, 0);
        would(book, 1, 1, FAR, OVER, 2, 4, 0, 2);
        would(book, 0, 3, NEAR, OVER, 2, 6, 0, 1);
        book.fold(0, 1, NEAR, OVER);
        would(book, 0, 1, NEAR, OVER, 3, 4, 2, 0);
        would(book, 0, 1, NEAR, UNDER, 3, 4, 4, 0);
        for (int[] way : new int[][] {{2, 1}, {-1, 1}, {0, 0}, {0, 3}, {1, 2}, {0, LOW}, {1, TOP}}) {
            Check.refuses("would(" + way[0] + ", " + way[1] + ")", book, WRONG,
                    () -> book.would(way[0], way[1], NEAR, OVER, 0));
        }
        Check.refuses("would of 4", book, WRONG, () -> book.would(0, 1, NEAR, OVER, 4));
        Check.refuses("would of -1", book, WRONG, () -> book.would(0, 1, NEAR, OVER, -1));
        Check.same("a ninth one", Sheets.eightFolds().would(1, 1, NEAR, OVER, 0), 24);
    }

    private static void promise19BestFold() {
        Check.same("without a LINE", new Creasebook().bestFold(), NONE);
        Check.same("4 by 1: the middle, under, NEAR", Sheets.sheet(4, 1).bestFold(), 16);
        Check.same("1 by 4: the middle, under, NEAR", Sheets.sheet(1, 4).bestFold(), 20);
        Check.same("2 by 2: the first AXIS", Sheets.sheet(2, 2).bestFold(), 8);
        Check.same("3 by 1: more FRONTS as the less goes", Sheets.sheet(3, 1).bestFold(), 8);
        Creasebook book = Sheets.sheet(2, 1);
        book.turn();
        Check.same("turned: FRONT as it goes over", book.bestFold(), 9);
        book.sheet(3, 1);
        book.turn();
        Check.same("turned 3 by 1: two FRONTS of the FAR part", book.bestFold(), 11);
        book.sheet(3, 2);
        Check.same("3 by 2: rows leave less", book.bestFold(), 12);
        Check.same("a ninth FOLD, none of which shows a FRONT", Sheets.eightFolds().bestFold(), 12);
    }

    private static void promise20Bring() {
        Creasebook book = Sheets.sheet(4, 1);
        Check.same("1 upon 0", book.bring(0, 1), 8);
        Check.same("0 upon 1", book.bring(1, 0), 9);
        Check.same("3 upon 0", book.bring(0, 3), 16);
        Check.same("0 upon 3", book.bring(3, 0), 17);
        Check.same("2 upon 0", book.bring(0, 2), NONE);
        Check.same("2 upon 3", book.bring(3, 2), 25);
        book.fold(0, 2, NEAR, OVER);
        lie("folded", book, "2 1', 3 0'");
        Check.same("1 is upon 2", book.bring(2, 1), 0);
        Check.same("2 upon 1, as the PILE is turned", book.bring(1, 2), 8);
        Check.same("3 upon 0, as the other PILE is turned", book.bring(0, 3), 10);
        Check.same("1 upon 0", book.bring(0, 1), 9);
        Check.same("3 upon 1", book.bring(1, 3), NONE);
        Check.same("2 upon 3", book.bring(3, 2), 10);
        Check.same("of rows", Sheets.sheet(1, 2).bring(0, 1), 12);
        Creasebook tall = Sheets.sheet(2, 8);
        tall.fold(0, 1, NEAR, OVER);
        Check.same("by the greatest CODE that there is", tall.bring(12, 14), 63);
        Check.same("by the least one", Sheets.sheet(2, 1).bring(0, 1), 8);
        int[][] wrong = {{-1, 0}, {0, -1}, {4, 0}, {0, 4}, {4, 4}, {-1, -1}, {LOW, 0}, {0, TOP}};
        for (int[] cells : wrong) {
            Check.refuses("bring(" + cells[0] + ", " + cells[1] + ")", book, INDEX,
                    () -> book.bring(cells[0], cells[1]));
        }
        Check.refuses("bring(2, 2)", book, WRONG, () -> book.bring(2, 2));
        Creasebook all = Sheets.eightFolds();
        Check.same("by a ninth FOLD", all.bring(all.ofPlace(0, 0, 1), all.ofPlace(0, 1, 1)), 15);
    }

    private static void promise21Fewest() {
        int[] due = {0, 1, 2, 2, 3, 3, 3, 3};
        for (int length = 1; length <= 8; length++) {
            Check.same("fewest() of columns", Sheets.sheet(length, 1).fewest(), due[length - 1]);
            Check.same("fewest() of rows", Sheets.sheet(1, length).fewest(), due[length - 1]);
        }
        Check.same("fewest() of 5 by 6", Sheets.sheet(5, 6).fewest(), 6);
        Creasebook book = Sheets.sheet(8, 4);
        int[][] halves = {{0, 4}, {0, 2}, {0, 1}, {1, 2}, {1, 1}};
        for (int done = 0; done < halves.length; done++) {
            Check.same("fewest() of 8 by 4, folded", book.fewest(), 5 - done);
            book.fold(halves[done][0], halves[done][1], NEAR, OVER);
        }
        Check.same("fewest() of one PLACE", book.fewest(), 0);
        Check.same("fewest() as if there could be more than 8", Sheets.eightFolds().fewest(), 1);
    }

    private static void promise22Digest() {
        Creasebook book = new Creasebook();
        int[] many = {1, 1, 1, 1, 0, 0, 0, 0, 0, 0, 0, 1, 1, 0, 0, 0};
        int[] cell = {0, 0, 0, 1, 0, 0, 0, 0, -1, -1, -1, -1};
        int[] place = {1, 0, 1, 0, 1, 0, 0};
        int[] end = {NONE, 0};
        long d = 58302;
        for (int[] part : new int[][] {many, cell, place, end}) {
            for (int number : part) {
                d = d * 31 + number;
            }
        }
        Check.same("digest() of a new object", book.digest(), d);
        Check.same("digest() again", book.digest(), d);
        promise22Two();
    }

    private static void promise22Two() {
        Creasebook book = Sheets.sheet(2, 1);
        book.ink(1, 0);
        int[] many = {2, 1, 2, 1, 0, 0, 0, 0, 1, 0, 0, 1, 2, 0, 0, 0};
        int[] cell0 = {0, 0, 0, 1, 0, 0, 0, 0, 0, 0, -1, -1};
        int[] cell1 = {1, 0, 0, 1, 0, 2, 0, 0, -1, -1, -1, -1};
        int[] place0 = {1, 0, 1, 0, 1, 0, 0};
        int[] place1 = {1, 1, 1, 1, 1, 0, 0};
        int[] end = {8, 1, 8};
        long d = 58302;
        for (int[] part : new int[][] {many, cell0, cell1, place0, place1, end}) {
            for (int number : part) {
                d = d * 31 + number;
            }
        }
        Check.same("digest() of two CELLS", book.digest(), d);
    }
}
