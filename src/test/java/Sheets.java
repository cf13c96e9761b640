import java.util.ArrayList;
import java.util.List;

/** Sheets that several tests start from, and what is to be seen of one, written out. */
final class Sheets {
    private Sheets() {
    }

    static Creasebook sheet(int wide, int high) {
        Creasebook book = new Creasebook();
        book.sheet(wide, high);
        return book;
    }

    /** Each WIDE and HIGH that a SHEET may have. */
    static List<int[]> sizes() {
        List<int[]> sizes = new ArrayList<>();
        for (int wide = 1; wide <= 8; wide++) {
            for (int high = 1; high <= 8; high++) {
                if (wide * high <= 32) {
                    sizes.add(new int[] {wide, high});
                }
            }
        }
        return sizes;
    }

    /** A strip along an AXIS: its CELLS are numbered from 0 on, and lie in the COLUMN or the ROW of their number. */
    static Creasebook strip(int axis, int length) {
        return axis == 0 ? sheet(length, 1) : sheet(1, length);
    }

    /** One PLACE above another one, of a SHEET of 8 by 3: there are 8 FOLDS, and one LINE is left. */
    static Creasebook eightFolds() {
        Creasebook book = sheet(8, 3);
        for (int i = 0; i < 7; i++) {
            book.fold(0, 1, false, true);
        }
        book.fold(1, 1, false, true);
        return book;
    }

    /** 32 CELLS upon each other, by five FOLDS. */
    static Creasebook onePile() {
        Creasebook book = sheet(8, 4);
        book.fold(0, 4, false, true);
        book.fold(0, 2, false, true);
        book.fold(0, 1, false, true);
        book.fold(1, 2, false, true);
        book.fold(1, 1, false, true);
        return book;
    }

    /** All PILES from their lowest LAYER on, as "1 0', 2 / 4 3', 5": a CELL with its FRONT down has a stroke. */
    static String lies(Creasebook book) {
        StringBuilder text = new StringBuilder();
        for (int y = 0; y < book.many(3); y++) {
            text.append(y == 0 ? "" : " / ");
            for (int x = 0; x < book.many(2); x++) {
                text.append(x == 0 ? "" : ", ").append(pile(book, x, y));
            }
        }
        return text.toString();
    }

    private static String pile(Creasebook book, int x, int y) {
        StringBuilder text = new StringBuilder();
        for (int layer = 0; layer < book.ofPlace(x, y, 0); layer++) {
            int cell = book.at(x, y, layer);
            text.append(layer == 0 ? "" : " ").append(cell).append(book.ofCell(cell, 3) == 1 ? "" : "'");
        }
        return text.toString();
    }

    /** digest() now, and behind each unfold() till there is none more: what FOLDS hide comes to light so. */
    static String digestsToTheStart(Creasebook book) {
        StringBuilder text = new StringBuilder().append(book.digest());
        while (book.unfold() != -1) {
            text.append(", unfolded: ").append(book.digest());
        }
        return text.append(", held: ").append(book.digest()).toString();
    }
}
