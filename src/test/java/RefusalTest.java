import java.util.ArrayList;
import java.util.List;

/**
 * "A method that throws an exception changes nothing. If several exceptions apply, the one that is named first is
 * thrown." Two objects are used alike, but one of them gets refused calls, too: nothing tells them apart ever after.
 */
public final class RefusalTest {
    private static final String WRONG = "IllegalArgumentException";
    private static final String STATE = "IllegalStateException";
    private static final String INDEX = "IndexOutOfBoundsException";
    private static final int LOW = Integer.MIN_VALUE;
    private static final int TOP = Integer.MAX_VALUE;
    private static final int KINDS = 8;
    private static final int STEPS = 12;

    /** A call that is to be refused, and by which exception. */
    private static final class Refused {
        private final String words;
        private final String due;
        private final Check.Call call;

        private Refused(String words, String due, Check.Call call) {
            this.words = words;
            this.due = due;
            this.call = call;
        }
    }

    public static void main(String[] args) {
        for (int kind = 0; kind < KINDS; kind++) {
            eachChangesNothing(kind);
            allOfThemChangeNothing(kind);
            for (int step = 0; step < STEPS; step++) {
                refusedAheadOf(kind, step);
            }
        }
        noneChangesNothing();
        Check.end("RefusalTest");
    }

    /** Objects in which a refused call could spoil something: as new, flat, folded, glued, full, with 8 FOLDS. */
    private static Creasebook used(int kind) {
        switch (kind) {
            case 0:
                return new Creasebook();
            case 1:
                return Sheets.sheet(8, 4);
            case 2:
                return Sheets.eightFolds();
            case 3:
                return Sheets.onePile();
            case 4:
                return inked();
            case 5:
                return glued();
            case 6:
                Creasebook unfolded = Sheets.onePile();
                unfolded.unfold();
                unfolded.unfold();
                return unfolded;
            default:
                Creasebook turned = Sheets.sheet(1, 8);
                turned.fold(1, 5, true, true);
                turned.turn();
                turned.round();
                return turned;
        }
    }

    private static Creasebook inked() {
        Creasebook book = Sheets.sheet(4, 4);
        book.ink(0, 0);
        book.ink(3, 3);
        book.dry();
        book.ink(1, 1);
        book.fold(0, 2, false, true);
        book.punch(0, 1);
        book.ink(1, 3);
        book.fold(1, 1, true, false);
        return book;
    }

    private static Creasebook glued() {
        Creasebook book = Sheets.sheet(6, 2);
        book.fold(0, 3, true, true);
        book.glue(1, 1);
        book.unfold();
        book.turn();
        book.fold(0, 1, false, false);
        return book;
    }

    private static List<Refused> refused(Creasebook book) {
        List<Refused> list = new ArrayList<>();
        sheets(list, book);
        folds(list, book);
        places(list, book);
        cells(list, book);
        corners(list, book);
        numbers(list, book);
        return list;
    }

    private static void sheets(List<Refused> list, Creasebook b) {
        int[][] sizes = {{0, 0}, {0, 1}, {1, 0}, {9, 1}, {1, 9}, {8, 5}, {5, 8}, {6, 6}, {-1, -1}, {LOW, TOP},
            {1 << 16, 1 << 16}};
        for (int[] size : sizes) {
            list.add(new Refused("sheet(" + size[0] + ", " + size[1] + ")", WRONG, () -> b.sheet(size[0], size[1])));
        }
    }

    private static void folds(List<Refused> list, Creasebook b) {
        int[][] ways = {{-1, 1}, {2, 1}, {LOW, 1}, {TOP, 1}, {0, 0}, {0, -1}, {1, 0}, {1, LOW}, {0, TOP},
            {0, b.many(2)}, {1, b.many(3)}, {-1, 0}};
        for (int[] way : ways) {
            String words = "(" + way[0] + ", " + way[1] + ")";
            list.add(new Refused("fold" + words, WRONG, () -> b.fold(way[0], way[1], false, true)));
            list.add(new Refused("fold" + words, WRONG, () -> b.fold(way[0], way[1], true, false)));
            list.add(new Refused("would" + words, WRONG, () -> b.would(way[0], way[1], false, true, 0)));
            list.add(new Refused("would" + words, WRONG, () -> b.would(way[0], way[1], true, false, 4)));
        }
        for (int axis = 0; axis < 2; axis++) {
            int asked = axis;
            if (b.many(2 + axis) > 1) {
                list.add(new Refused("would() of 4", WRONG, () -> b.would(asked, 1, true, true, 4)));
                list.add(new Refused("would() of -1", WRONG, () -> b.would(asked, 1, false, false, -1)));
                if (b.many(4) == 8) {
                    list.add(new Refused("a ninth FOLD", STATE, () -> b.fold(asked, 1, true, true)));
                    list.add(new Refused("a ninth FOLD", STATE, () -> b.fold(asked, 1, false, false)));
                }
            }
        }
    }

    private static void places(List<Refused> list, Creasebook b) {
        int[][] places = {{-1, 0}, {0, -1}, {b.many(2), 0}, {0, b.many(3)}, {LOW, LOW}, {TOP, TOP}, {1 << 30, 0},
            {0, 1 << 30}};
        for (int[] at : places) {
            String words = "(" + at[0] + ", " + at[1] + ")";
            list.add(new Refused("ink" + words, INDEX, () -> b.ink(at[0], at[1])));
            list.add(new Refused("punch" + words, INDEX, () -> b.punch(at[0], at[1])));
            list.add(new Refused("glue" + words, INDEX, () -> b.glue(at[0], at[1])));
            list.add(new Refused("ofPlace" + words, INDEX, () -> b.ofPlace(at[0], at[1], 0)));
            list.add(new Refused("ofPlace" + words + " of 7", INDEX, () -> b.ofPlace(at[0], at[1], 7)));
            list.add(new Refused("at" + words, INDEX, () -> b.at(at[0], at[1], 0)));
            list.add(new Refused("at" + words + " of -1", INDEX, () -> b.at(at[0], at[1], -1)));
        }
        list.add(new Refused("ofPlace() of 7", WRONG, () -> b.ofPlace(0, 0, 7)));
        list.add(new Refused("ofPlace() of -1", WRONG, () -> b.ofPlace(0, 0, -1)));
        list.add(new Refused("at() of no LAYER", INDEX, () -> b.at(0, 0, b.ofPlace(0, 0, 0))));
        list.add(new Refused("at() of no LAYER", INDEX, () -> b.at(0, 0, -1)));
    }

    private static void cells(List<Refused> list, Creasebook b) {
        int cells = b.many(0) * b.many(1);
        for (int wrong : new int[] {LOW, -1, cells, cells + 1, 1 << 30, TOP}) {
            list.add(new Refused("ofCell(" + wrong + ", 0)", INDEX, () -> b.ofCell(wrong, 0)));
            list.add(new Refused("ofCell(" + wrong + ", 8)", INDEX, () -> b.ofCell(wrong, 8)));
            list.add(new Refused("ofPair(" + wrong + ", 0)", INDEX, () -> b.ofPair(wrong, true, 0)));
            list.add(new Refused("ofPair(" + wrong + ", 2)", INDEX, () -> b.ofPair(wrong, false, 2)));
            list.add(new Refused("bring(" + wrong + ", 0)", INDEX, () -> b.bring(wrong, 0)));
            list.add(new Refused("bring(0, " + wrong + ")", INDEX, () -> b.bring(0, wrong)));
            list.add(new Refused("bring() of both " + wrong, INDEX, () -> b.bring(wrong, wrong)));
        }
        list.add(new Refused("ofCell() of 8", WRONG, () -> b.ofCell(0, 8)));
        list.add(new Refused("ofCell() of -1", WRONG, () -> b.ofCell(cells - 1, -1)));
        list.add(new Refused("ofPair() of 2", WRONG, () -> b.ofPair(0, false, 2)));
        list.add(new Refused("ofPair() of -1, none beside", WRONG, () -> b.ofPair(cells - 1, true, -1)));
        list.add(new Refused("bring() of both the same", WRONG, () -> b.bring(cells - 1, cells - 1)));
    }

    private static void corners(List<Refused> list, Creasebook b) {
        int[][] corners = {{0, 1}, {1, 0}, {b.many(0), 1}, {1, b.many(1)}, {0, 0}, {LOW, 1}, {1, TOP}};
        for (int[] at : corners) {
            String words = "ofCorner(" + at[0] + ", " + at[1] + ")";
            list.add(new Refused(words, INDEX, () -> b.ofCorner(at[0], at[1], 0)));
            list.add(new Refused(words + " of 3", INDEX, () -> b.ofCorner(at[0], at[1], 3)));
        }
        if (b.many(0) > 1 && b.many(1) > 1) {
            list.add(new Refused("ofCorner() of 3", WRONG, () -> b.ofCorner(1, 1, 3)));
            list.add(new Refused("ofCorner() of -1", WRONG, () -> b.ofCorner(1, 1, -1)));
        }
    }

    private static void numbers(List<Refused> list, Creasebook b) {
        for (int what : new int[] {LOW, -1, 16, TOP}) {
            list.add(new Refused("many(" + what + ")", WRONG, () -> b.many(what)));
        }
        for (int axis : new int[] {LOW, -1, 2, TOP}) {
            list.add(new Refused("weight(" + axis + ")", WRONG, () -> b.weight(axis)));
        }
    }

    private static void refuse(Refused one) {
        Check.same(one.words, Check.outcome(one.call), one.due);
    }

    private static void eachChangesNothing(int kind) {
        String due = Sheets.digestsToTheStart(used(kind));
        int calls = refused(used(kind)).size();
        for (int i = 0; i < calls; i++) {
            Creasebook book = used(kind);
            Refused one = refused(book).get(i);
            String lies = Sheets.lies(book);
            refuse(one);
            Check.same("how it lies behind " + one.words, Sheets.lies(book), lies);
            Check.same("all behind " + one.words, Sheets.digestsToTheStart(book), due);
        }
    }

    private static void allOfThemChangeNothing(int kind) {
        Creasebook book = used(kind);
        for (Refused one : refused(book)) {
            refuse(one);
        }
        Check.same("unfolded behind all refusals", Sheets.digestsToTheStart(book),
                Sheets.digestsToTheStart(used(kind)));
    }

    /** Ahead of a step of use that is done to both, one of both gets all refused calls. */
    private static void refusedAheadOf(int kind, int step) {
        Creasebook book = used(kind);
        Creasebook other = used(kind);
        for (int before = 0; before < step; before++) {
            use(book, before);
            use(other, before);
        }
        for (Refused one : refused(book)) {
            refuse(one);
        }
        Check.same("step " + step, use(book, step), use(other, step));
        Check.same("behind step " + step, Sheets.digestsToTheStart(book), Sheets.digestsToTheStart(other));
    }

    private static Object use(Creasebook b, int step) {
        switch (step) {
            case 0:
                return b.ink(0, b.many(3) - 1);
            case 1:
                return Check.outcome(() -> b.fold(0, 1, true, true));
            case 2:
                return b.unfold();
            case 3:
                return Check.outcome(() -> b.fold(1, 1, false, false));
            case 4:
                return b.turn();
            case 5:
                return b.punch(b.many(2) - 1, 0);
            case 6:
                return b.dry();
            case 7:
                return b.round();
            case 8:
                return b.glue(0, 0);
            case 9:
                return Check.outcome(() -> b.fold(0, b.many(2) - 1, false, true));
            case 10:
                return b.ink(0, 0);
            default:
                return b.unfold();
        }
    }

    /** unfold() that can not be throws nothing, and does nothing but count. */
    private static void noneChangesNothing() {
        Creasebook book = Sheets.sheet(4, 2);
        book.fold(0, 2, true, false);
        book.ink(1, 1);
        book.turn();
        book.glue(0, 1);
        String lies = Sheets.lies(book);
        int[] many = new int[15];
        for (int what = 0; what < 15; what++) {
            many[what] = book.many(what);
        }
        for (int times = 1; times <= 5; times++) {
            Check.same("unfold() of what is glued", book.unfold(), -1);
            Check.same("it lies as it did", Sheets.lies(book), lies);
            for (int what = 0; what < 15; what++) {
                Check.same("many(" + what + ") behind NONE", book.many(what), many[what]);
            }
            Check.same("how often NONE", book.many(15), times);
        }
    }
}
