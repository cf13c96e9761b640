import java.util.ArrayDeque;
import java.util.ArrayList;
import java.util.Deque;
import java.util.HashSet;
import java.util.List;
import java.util.Set;
import java.util.TreeMap;

/**
 * The document once more, with PILES as lists that are carried about as its words say, and nothing counted ahead:
 * slow, and shaped in no way like Creasebook, so that a fault of one is not likely a fault of the other.
 */
final class Model {
    private static final class Lying {
        final int cell;
        final boolean frontUp;

        Lying(int cell, boolean frontUp) {
            this.cell = cell;
            this.frontUp = frontUp;
        }
    }

    private static final class Past {
        TreeMap<Integer, List<Lying>> piles;
        TreeMap<Integer, Integer> creases;
        Set<Integer> went;
    }

    /** What a FOLD makes, ahead of anyone taking it over. */
    private static final class Folded {
        final TreeMap<Integer, List<Lying>> piles = new TreeMap<>();
        final Set<Integer> went = new HashSet<>();
        final List<int[]> touching = new ArrayList<>();
    }

    private int wide;
    private int high;
    private TreeMap<Integer, List<Lying>> piles;
    private TreeMap<Integer, Integer> creases;
    private TreeMap<Integer, Integer> marks;
    private int[] ink;
    private int[] holes;
    private Set<Integer> glued;
    private Deque<Past> pasts;
    private int blots;
    private int nones;

    Model() {
        sheet(1, 1);
    }

    private static int key(int x, int y) {
        return 1000 * (y + 100) + x + 100;
    }

    private static int xOf(int key) {
        return key % 1000 - 100;
    }

    private static int yOf(int key) {
        return key / 1000 - 100;
    }

    int sheet(int newWide, int newHigh) {
        if (newWide < 1 || newHigh < 1 || newWide > 8 || newHigh > 8 || newWide * newHigh > 32) {
            throw new IllegalArgumentException();
        }
        wide = newWide;
        high = newHigh;
        piles = new TreeMap<>();
        creases = new TreeMap<>();
        marks = new TreeMap<>();
        ink = new int[2 * wide * high];
        holes = new int[wide * high];
        glued = new HashSet<>();
        pasts = new ArrayDeque<>();
        blots = 0;
        nones = 0;
        for (int cell = 0; cell < wide * high; cell++) {
            List<Lying> pile = new ArrayList<>();
            pile.add(new Lying(cell, true));
            piles.put(key(cell % wide, cell / wide), pile);
        }
        return wide * high;
    }

    private int columns() {
        int most = 0;
        for (int key : piles.keySet()) {
            most = Math.max(most, xOf(key) + 1);
        }
        return most;
    }

    private int rows() {
        int most = 0;
        for (int key : piles.keySet()) {
            most = Math.max(most, yOf(key) + 1);
        }
        return most;
    }

    private static List<Lying> turned(List<Lying> pile) {
        List<Lying> turned = new ArrayList<>();
        for (Lying lying : pile) {
            turned.add(0, new Lying(lying.cell, !lying.frontUp));
        }
        return turned;
    }

    private boolean lineIsWrong(int axis, int line) {
        return axis < 0 || axis > 1 || line < 1 || line > (axis == 0 ? columns() : rows()) - 1;
    }

    private Folded folded(int axis, int line, boolean far, boolean over) {
        Folded folded = new Folded();
        TreeMap<Integer, List<Lying>> whole = new TreeMap<>();
        for (int key : piles.keySet()) {
            if (!isOfPart(key, axis, line, far)) {
                whole.put(key, new ArrayList<>(piles.get(key)));
            }
        }
        for (int key : piles.keySet()) {
            if (isOfPart(key, axis, line, far)) {
                for (Lying lying : piles.get(key)) {
                    folded.went.add(lying.cell);
                }
                int goal = axis == 0 ? key(2 * line - 1 - xOf(key), yOf(key)) : key(xOf(key), 2 * line - 1 - yOf(key));
                List<Lying> joined = new ArrayList<>();
                if (whole.containsKey(goal)) {
                    folded.touching.add(new int[] {
                        touchingSide(piles.get(key), over), touchingSide(piles.get(goal), over)});
                    joined.addAll(whole.get(goal));
                }
                joined.addAll(over ? joined.size() : 0, turned(piles.get(key)));
                whole.put(goal, joined);
            }
        }
        int leastX = 1000;
        int leastY = 1000;
        for (int key : whole.keySet()) {
            leastX = Math.min(leastX, xOf(key));
            leastY = Math.min(leastY, yOf(key));
        }
        for (int key : whole.keySet()) {
            folded.piles.put(key(xOf(key) - leastX, yOf(key) - leastY), whole.get(key));
        }
        return folded;
    }

    private static boolean isOfPart(int key, int axis, int line, boolean far) {
        int along = axis == 0 ? xOf(key) : yOf(key);
        return far ? along >= line : along < line;
    }

    /** FRONT of a CELL is its even number, BACK the odd one. */
    private static int touchingSide(List<Lying> pile, boolean over) {
        Lying outer = pile.get(over ? pile.size() - 1 : 0);
        boolean front = over ? outer.frontUp : !outer.frontUp;
        return 2 * outer.cell + (front ? 0 : 1);
    }

    private int keyOf(int cell) {
        for (int key : piles.keySet()) {
            for (Lying lying : piles.get(key)) {
                if (lying.cell == cell) {
                    return key;
                }
            }
        }
        throw new AssertionError("CELL is lost");
    }

    private int layerOf(int cell) {
        List<Lying> pile = piles.get(keyOf(cell));
        for (int layer = 0; layer < pile.size(); layer++) {
            if (pile.get(layer).cell == cell) {
                return layer;
            }
        }
        throw new AssertionError("CELL is lost");
    }

    private boolean frontUp(int cell) {
        return piles.get(keyOf(cell)).get(layerOf(cell)).frontUp;
    }

    /** 100 times the first CELL and the second one, of each PAIR. */
    private List<Integer> allPairs() {
        List<Integer> pairs = new ArrayList<>();
        for (int a = 0; a < wide * high; a++) {
            for (int b = a + 1; b < wide * high; b++) {
                int apart = Math.abs(a % wide - b % wide) + Math.abs(a / wide - b / wide);
                if (apart == 1) {
                    pairs.add(100 * a + b);
                }
            }
        }
        return pairs;
    }

    int fold(int axis, int line, boolean far, boolean over) {
        if (lineIsWrong(axis, line)) {
            throw new IllegalArgumentException();
        }
        if (pasts.size() == 8) {
            throw new IllegalStateException();
        }
        Folded folded = folded(axis, line, far, over);
        Past past = new Past();
        past.piles = piles;
        past.creases = new TreeMap<>(creases);
        past.went = folded.went;
        int got = 0;
        for (int pair : allPairs()) {
            if (!creases.containsKey(pair) && liesAcross(pair / 100, pair % 100, axis, line)) {
                int goer = folded.went.contains(pair / 100) ? pair / 100 : pair % 100;
                boolean valley = frontUp(goer) && over || !frontUp(goer) && !over;
                creases.put(pair, valley ? 1 : 2);
                marks.merge(pair, 1, Integer::sum);
                got++;
            }
        }
        for (int[] sides : folded.touching) {
            if ((ink[sides[0]] == 2) != (ink[sides[1]] == 2)) {
                ink[sides[0]] = 2;
                ink[sides[1]] = 2;
                blots++;
            }
        }
        pasts.push(past);
        piles = folded.piles;
        return got;
    }

    private boolean liesAcross(int a, int b, int axis, int line) {
        int keyA = keyOf(a);
        int keyB = keyOf(b);
        int alongA = axis == 0 ? xOf(keyA) : yOf(keyA);
        int alongB = axis == 0 ? xOf(keyB) : yOf(keyB);
        boolean beside = axis == 0 ? yOf(keyA) == yOf(keyB) : xOf(keyA) == xOf(keyB);
        return beside && Math.min(alongA, alongB) == line - 1 && Math.max(alongA, alongB) == line;
    }

    int unfold() {
        boolean held = pasts.isEmpty();
        if (!held) {
            for (int two : glued) {
                held |= pasts.peek().went.contains(two / 100) != pasts.peek().went.contains(two % 100);
            }
        }
        if (held) {
            nones++;
            return -1;
        }
        Past past = pasts.pop();
        piles = past.piles;
        creases = past.creases;
        return pasts.size();
    }

    int turn() {
        TreeMap<Integer, List<Lying>> turned = new TreeMap<>();
        for (int key : piles.keySet()) {
            turned.put(key(columns() - 1 - xOf(key), yOf(key)), turned(piles.get(key)));
        }
        piles = turned;
        return seen(true);
    }

    int round() {
        TreeMap<Integer, List<Lying>> round = new TreeMap<>();
        for (int key : piles.keySet()) {
            round.put(key(columns() - 1 - xOf(key), rows() - 1 - yOf(key)), piles.get(key));
        }
        piles = round;
        return ofPlace(0, 0, 1);
    }

    private List<Lying> pileAt(int x, int y) {
        if (x < 0 || y < 0 || x >= columns() || y >= rows()) {
            throw new IndexOutOfBoundsException();
        }
        return piles.get(key(x, y));
    }

    boolean ink(int x, int y) {
        int side = touchingSide(pileAt(x, y), true);
        boolean fresh = ink[side] != 2;
        ink[side] = 2;
        return fresh;
    }

    int dry() {
        int dried = 0;
        for (int side = 0; side < ink.length; side++) {
            if (ink[side] == 2) {
                ink[side] = 1;
                dried++;
            }
        }
        return dried;
    }

    int punch(int x, int y) {
        for (Lying lying : pileAt(x, y)) {
            holes[lying.cell]++;
        }
        return pileAt(x, y).size();
    }

    private static int two(int a, int b) {
        return 100 * Math.min(a, b) + Math.max(a, b);
    }

    int glue(int x, int y) {
        List<Lying> pile = pileAt(x, y);
        int fresh = 0;
        for (int layer = 1; layer < pile.size(); layer++) {
            if (glued.add(two(pile.get(layer - 1).cell, pile.get(layer).cell))) {
                fresh++;
            }
        }
        return fresh;
    }

    private static void ask(int what, int most) {
        if (what < 0 || what > most) {
            throw new IllegalArgumentException();
        }
    }

    int ofPlace(int x, int y, int what) {
        List<Lying> pile = pileAt(x, y);
        ask(what, 6);
        Lying highest = pile.get(pile.size() - 1);
        Lying lowest = pile.get(0);
        int sumOfHoles = 0;
        int sumOfGlued = 0;
        for (int layer = 0; layer < pile.size(); layer++) {
            sumOfHoles += holes[pile.get(layer).cell];
            if (layer > 0 && glued.contains(two(pile.get(layer - 1).cell, pile.get(layer).cell))) {
                sumOfGlued++;
            }
        }
        int[] answers = {pile.size(), highest.cell, highest.frontUp ? 1 : 0, lowest.cell, lowest.frontUp ? 1 : 0,
            sumOfHoles, sumOfGlued};
        return answers[what];
    }

    int at(int x, int y, int layer) {
        List<Lying> pile = pileAt(x, y);
        if (layer < 0 || layer >= pile.size()) {
            throw new IndexOutOfBoundsException();
        }
        return pile.get(layer).cell;
    }

    private void needCell(int cell) {
        if (cell < 0 || cell >= wide * high) {
            throw new IndexOutOfBoundsException();
        }
    }

    int ofCell(int cell, int what) {
        needCell(cell);
        ask(what, 7);
        int creased = 0;
        for (int pair : creases.keySet()) {
            if (pair / 100 == cell || pair % 100 == cell) {
                creased++;
            }
        }
        int[] answers = {xOf(keyOf(cell)), yOf(keyOf(cell)), layerOf(cell), frontUp(cell) ? 1 : 0, holes[cell],
            ink[2 * cell], ink[2 * cell + 1], creased};
        return answers[what];
    }

    int ofPair(int cell, boolean down, int what) {
        needCell(cell);
        ask(what, 1);
        int other = down ? cell + wide : cell + 1;
        boolean otherRow = !down && other / wide != cell / wide;
        if (otherRow || !allPairs().contains(100 * cell + other)) {
            return -1;
        }
        return (what == 0 ? creases : marks).getOrDefault(100 * cell + other, 0);
    }

    int ofCorner(int x, int y, int what) {
        if (x < 1 || y < 1 || x > wide - 1 || y > high - 1) {
            throw new IndexOutOfBoundsException();
        }
        ask(what, 2);
        int answer = 0;
        for (int pair : allPairs()) {
            if (isAtCorner(pair / 100, x, y) && isAtCorner(pair % 100, x, y)) {
                int crease = creases.getOrDefault(pair, 0);
                int[] adds = {crease > 0 ? 1 : 0, new int[] {0, -1, 1}[crease], marks.containsKey(pair) ? 1 : 0};
                answer += adds[what];
            }
        }
        return answer;
    }

    private boolean isAtCorner(int cell, int x, int y) {
        return (cell % wide == x || cell % wide == x - 1) && (cell / wide == y || cell / wide == y - 1);
    }

    private int seen(boolean fromAbove) {
        return seen(piles, fromAbove);
    }

    private static int seen(TreeMap<Integer, List<Lying>> from, boolean fromAbove) {
        int count = 0;
        for (List<Lying> pile : from.values()) {
            Lying outer = pile.get(fromAbove ? pile.size() - 1 : 0);
            if (outer.frontUp == fromAbove) {
                count++;
            }
        }
        return count;
    }

    private static int highest(TreeMap<Integer, List<Lying>> from) {
        int most = 0;
        for (List<Lying> pile : from.values()) {
            most = Math.max(most, pile.size());
        }
        return most;
    }

    private static int times(Iterable<Integer> values, int wanted) {
        int count = 0;
        for (int value : values) {
            if (value == wanted) {
                count++;
            }
        }
        return count;
    }

    private static int sum(Iterable<Integer> values) {
        int sum = 0;
        for (int value : values) {
            sum += value;
        }
        return sum;
    }

    private static List<Integer> listOf(int[] values) {
        List<Integer> list = new ArrayList<>();
        for (int value : values) {
            list.add(value);
        }
        return list;
    }

    int many(int what) {
        ask(what, 15);
        int[] answers = {wide, high, columns(), rows(), pasts.size(), times(creases.values(), 1),
            times(creases.values(), 2), sum(marks.values()), times(listOf(ink), 2), times(listOf(ink), 1),
            sum(listOf(holes)), highest(piles), seen(true), seen(false), blots, nones};
        return answers[what];
    }

    double weight(int axis) {
        if (axis < 0 || axis > 1) {
            throw new IllegalArgumentException();
        }
        int sum = 0;
        for (int cell = 0; cell < wide * high; cell++) {
            sum += axis == 0 ? xOf(keyOf(cell)) : yOf(keyOf(cell));
        }
        int best = 0;
        for (int quarters = 1; quarters < 40; quarters++) {
            int apart = Math.abs(4 * sum - quarters * wide * high);
            int bestApart = Math.abs(4 * sum - best * wide * high);
            if (apart < bestApart || apart == bestApart && quarters % 2 == 0) {
                best = quarters;
            }
        }
        return best / 4.0;
    }

    int would(int axis, int line, boolean far, boolean over, int what) {
        if (lineIsWrong(axis, line)) {
            throw new IllegalArgumentException();
        }
        ask(what, 3);
        Folded folded = folded(axis, line, far, over);
        int newBlots = 0;
        for (int[] sides : folded.touching) {
            if ((ink[sides[0]] == 2) != (ink[sides[1]] == 2)) {
                newBlots++;
            }
        }
        int[] answers = {highest(folded.piles), folded.piles.size(), seen(folded.piles, true), newBlots};
        return answers[what];
    }

    private static int code(int axis, int line, boolean far, boolean over) {
        return 8 * line + 4 * axis + (far ? 2 : 0) + (over ? 1 : 0);
    }

    int bestFold() {
        boolean[] both = {false, true};
        int best = -1;
        long bestWorth = Long.MAX_VALUE;
        for (int axis = 0; axis < 2; axis++) {
            for (int line = 1; !lineIsWrong(axis, line); line++) {
                for (boolean far : both) {
                    for (boolean over : both) {
                        Folded folded = folded(axis, line, far, over);
                        int code = code(axis, line, far, over);
                        long worth = folded.piles.size() * 1000000L - seen(folded.piles, true) * 1000L + code;
                        if (worth < bestWorth) {
                            bestWorth = worth;
                            best = code;
                        }
                    }
                }
            }
        }
        return best;
    }

    private static boolean isJustUpon(TreeMap<Integer, List<Lying>> in, int lower, int upper) {
        for (List<Lying> pile : in.values()) {
            for (int layer = 1; layer < pile.size(); layer++) {
                if (pile.get(layer - 1).cell == lower && pile.get(layer).cell == upper) {
                    return true;
                }
            }
        }
        return false;
    }

    int bring(int lower, int upper) {
        needCell(lower);
        needCell(upper);
        if (lower == upper) {
            throw new IllegalArgumentException();
        }
        if (isJustUpon(piles, lower, upper)) {
            return 0;
        }
        boolean[] both = {false, true};
        int best = -1;
        for (int axis = 0; axis < 2; axis++) {
            for (int line = 1; !lineIsWrong(axis, line); line++) {
                for (boolean far : both) {
                    for (boolean over : both) {
                        int code = code(axis, line, far, over);
                        boolean smaller = best < 0 || code < best;
                        if (smaller && isJustUpon(folded(axis, line, far, over).piles, lower, upper)) {
                            best = code;
                        }
                    }
                }
            }
        }
        return best;
    }

    int fewest() {
        return fewest(columns()) + fewest(rows());
    }

    private static int fewest(int length) {
        int best = length == 1 ? 0 : 100;
        for (int line = 1; line < length; line++) {
            best = Math.min(best, 1 + fewest(Math.max(line, length - line)));
        }
        return best;
    }

    long digest() {
        List<Integer> numbers = new ArrayList<>();
        for (int what = 0; what < 16; what++) {
            numbers.add(many(what));
        }
        for (int cell = 0; cell < wide * high; cell++) {
            for (int what = 0; what < 8; what++) {
                numbers.add(ofCell(cell, what));
            }
            for (int which = 0; which < 4; which++) {
                numbers.add(ofPair(cell, which >= 2, which % 2));
            }
        }
        for (int y = 0; y < rows(); y++) {
            for (int x = 0; x < columns(); x++) {
                for (int what = 0; what < 7; what++) {
                    numbers.add(ofPlace(x, y, what));
                }
            }
        }
        numbers.add(bestFold());
        numbers.add(fewest());
        if (wide * high > 1) {
            numbers.add(bring(0, 1));
        }
        long d = 58302;
        for (int number : numbers) {
            d = d * 31 + number;
        }
        return d;
    }
}
