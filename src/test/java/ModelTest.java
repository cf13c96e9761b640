/** Long runs of calls, by written numbers alone, each answered by Creasebook as by the Model. */
public final class ModelTest {
    private static final int RUNS = 400;
    private static final int CALLS = 120;
    private static final int[] ODD = {
        -1, 0, 1, 2, 3, 7, 8, 15, 16, 31, 32, 33, 64, Integer.MIN_VALUE, Integer.MAX_VALUE, 1 << 16, -32, 1 << 30};

    private static long seed;
    /** Whether a FOLD is at the first or the last LINE mostly, so that there may come to be 8, and a LINE be left. */
    private static boolean isThin;

    public static void main(String[] args) {
        for (int run = 0; run < RUNS; run++) {
            seed = 7919L * run + 1;
            isThin = run % 3 == 0;
            oneRun(run);
        }
        Check.end("ModelTest");
    }

    private static int next(int bound) {
        seed = seed * 6364136223846793005L + 1442695040888963407L;
        return (int) ((seed >>> 33) % bound);
    }

    /** Mostly a number that there may be, now and then one that there is not. */
    private static int number(int bound) {
        return next(20) == 0 ? ODD[next(ODD.length)] : next(Math.max(1, bound));
    }

    private static void oneRun(int run) {
        Creasebook book = new Creasebook();
        Model model = new Model();
        tell(run, book, model);
        for (int call = 0; call < CALLS; call++) {
            step(run, book, model);
            if (call % 10 == 0) {
                same(run, "digest()", book::digest, model::digest);
            }
        }
        same(run, "digest()", book::digest, model::digest);
    }

    private static void same(int run, String what, Check.Call got, Check.Call due) {
        Check.same("run " + run + ": " + what, Check.outcome(got), Check.outcome(due));
    }

    private static void tell(int run, Creasebook b, Model m) {
        int wide = next(30) == 0 ? number(9) : 1 + next(8);
        int high = next(30) == 0 ? number(9) : 1 + next(Math.max(1, Math.min(8, 32 / Math.max(1, wide))));
        same(run, "sheet(" + wide + ", " + high + ")", () -> b.sheet(wide, high), () -> m.sheet(wide, high));
    }

    private static void step(int run, Creasebook b, Model m) {
        int kind = next(40);
        if (kind < 12) {
            change(kind, run, b, m);
        } else if (kind < 16) {
            foldOne(run, b, m);
        } else if (kind < 18) {
            same(run, "unfold()", b::unfold, m::unfold);
        } else if (kind == 18 && next(5) == 0) {
            tell(run, b, m);
        } else {
            ask(kind, run, b, m);
        }
    }

    private static void foldOne(int run, Creasebook b, Model m) {
        int axis = next(15) == 0 ? number(4) : m.many(3) == 1 || (next(2) == 0 && m.many(2) > 1) ? 0 : 1;
        int lines = axis == 0 ? m.many(2) : m.many(3);
        int line = next(15) == 0 ? number(lines + 1) : someLine(lines);
        boolean far = next(2) == 0;
        boolean over = next(2) == 0;
        String words = "(" + axis + ", " + line + ", " + far + ", " + over;
        for (int what = 0; what < 4; what++) {
            int asked = what;
            same(run, "would" + words + ", " + asked + ")",
                    () -> b.would(axis, line, far, over, asked), () -> m.would(axis, line, far, over, asked));
        }
        same(run, "fold" + words + ")", () -> b.fold(axis, line, far, over), () -> m.fold(axis, line, far, over));
    }

    private static int someLine(int lines) {
        int most = Math.max(1, lines - 1);
        if (isThin) {
            return next(2) == 0 ? 1 : most;
        }
        return 1 + next(most);
    }

    private static void change(int kind, int run, Creasebook b, Model m) {
        int x = number(m.many(2));
        int y = number(m.many(3));
        String place = "(" + x + ", " + y + ")";
        if (kind == 0) {
            same(run, "turn()", b::turn, m::turn);
        } else if (kind == 1) {
            same(run, "round()", b::round, m::round);
        } else if (kind < 8) {
            same(run, "ink" + place, () -> b.ink(x, y), () -> m.ink(x, y));
        } else if (kind == 8) {
            same(run, "dry()", b::dry, m::dry);
        } else if (kind < 11) {
            same(run, "punch" + place, () -> b.punch(x, y), () -> m.punch(x, y));
        } else if (next(8) == 0) {
            same(run, "glue" + place, () -> b.glue(x, y), () -> m.glue(x, y));
        }
    }

    private static void ask(int kind, int run, Creasebook b, Model m) {
        int cells = m.many(0) * m.many(1);
        int x = number(m.many(2));
        int y = number(m.many(3));
        int cell = number(cells);
        int other = number(cells);
        boolean is = next(2) == 0;
        int what = number(17);
        int few = number(5);
        if (kind < 22) {
            int some = number(8);
            same(run, "ofPlace(" + x + ", " + y + ", " + some + ")",
                    () -> b.ofPlace(x, y, some), () -> m.ofPlace(x, y, some));
        } else if (kind < 24) {
            int layer = number(m.many(11));
            same(run, "at(" + x + ", " + y + ", " + layer + ")", () -> b.at(x, y, layer), () -> m.at(x, y, layer));
        } else if (kind < 27) {
            int some = number(9);
            same(run, "ofCell(" + cell + ", " + some + ")", () -> b.ofCell(cell, some), () -> m.ofCell(cell, some));
        } else if (kind < 29) {
            same(run, "ofPair(" + cell + ", " + is + ", " + few + ")",
                    () -> b.ofPair(cell, is, few), () -> m.ofPair(cell, is, few));
        } else if (kind < 31) {
            int cornerX = number(m.many(0) + 1);
            int cornerY = number(m.many(1) + 1);
            same(run, "ofCorner(" + cornerX + ", " + cornerY + ", " + few + ")",
                    () -> b.ofCorner(cornerX, cornerY, few), () -> m.ofCorner(cornerX, cornerY, few));
        } else if (kind < 33) {
            same(run, "many(" + what + ")", () -> b.many(what), () -> m.many(what));
        } else if (kind < 35) {
            int axis = number(3);
            same(run, "weight(" + axis + ")", () -> b.weight(axis), () -> m.weight(axis));
        } else if (kind < 36) {
            same(run, "would(" + few + ", " + x + ", " + is + ", true, " + what + ")",
                    () -> b.would(few, x, is, true, what), () -> m.would(few, x, is, true, what));
        } else if (kind < 39) {
            same(run, "bring(" + cell + ", " + other + ")", () -> b.bring(cell, other), () -> m.bring(cell, other));
        } else {
            same(run, "bestFold()", b::bestFold, m::bestFold);
            same(run, "fewest()", b::fewest, m::fewest);
        }
    }
}
