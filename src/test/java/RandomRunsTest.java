/** Runs of 512 calls by chance, each answer as the model's; always the same runs. */
final class RandomRunsTest {
    private static final int RUNS = 150, CALLS = 512;
    private static final int[] EDGES = {-1, 0, 1, Integer.MIN_VALUE, Integer.MAX_VALUE, 1024, 2000, 2001, 100000, 255};

    private final HiddenWorks x = new HiddenWorks();
    private final Model model = new Model();
    private final StringBuilder told = new StringBuilder();
    private long lot;
    private int letters = 10;

    private RandomRunsTest(long seed) {
        lot = seed * 7919 + 12345;
    }

    static void run() {
        for (int run = 0; run < RUNS; run++) {
            RandomRunsTest one = new RandomRunsTest(run);
            boolean alike = one.isAlike();
            if (!alike) {
                System.out.println("run " + run + ":" + one.told);
            }
            Check.due("run " + run + " is as the model's", alike);
        }
    }

    private int upTo(int n) {
        lot = lot * 6364136223846793005L + 1442695040888963407L;
        return (int) ((lot >>> 33) % n);
    }

    /** A number from 0 on, below n; now and then one at an edge, or beyond it. */
    private int near(int n) {
        int by = upTo(60);
        return by == 0 ? EDGES[upTo(EDGES.length)] : by == 1 ? n : by == 2 ? -1 : upTo(n);
    }

    private boolean isAlike() {
        for (int call = 0; call < CALLS; call++) {
            told.append("\n  ");
            if (call < 4 ? !feedsAlike(true) : !callsAlike(upTo(40))) {
                return false;
            }
        }
        return true;
    }

    private boolean same(String call, long got, long want, int... arguments) {
        told.append(call);
        for (int a : arguments) {
            told.append(' ').append(a);
        }
        told.append(": ").append(got).append(", due ").append(want);
        return got == want;
    }

    private boolean callsAlike(int which) {
        return which < 20 ? firstCalls(which) : laterCalls(which);
    }

    private boolean firstCalls(int which) {
        int a = near(8), b = near(6), c = near(1 << letters), d = near(3), s = near(4);
        switch (which) {
            case 0: return feedsAlike(upTo(3) > 0);
            case 1: return same("recipeTold", x.recipeTold(b, a), model.recipeTold(b, a), b, a);
            case 2: case 3: {
                int seed = near(100000);
                return same("make", x.make(b, seed), model.make(b, seed), b, seed);
            }
            case 4: case 5: return wildAlike(b, s);
            case 6: return same("taskTold", x.taskTold(a, b), model.taskTold(a, b), a, b);
            case 7: case 8: {
                int e = near(24);
                return same("clauseTold", x.clauseTold(a, e, d), model.clauseTold(a, e, d), a, e, d);
            }
            case 9: return same("solves", x.solves(a, c), model.solves(a, c), a, c);
            case 10: {
                int fixed = near(1024) & near(1024), as = upTo(9) == 0 ? c : fixed & near(1024);
                return same("answers", x.answers(a, fixed, as), model.answers(a, fixed, as), a, fixed, as);
            }
            case 11: {
                int e = near(40);
                return same("answer", x.answer(a, e), model.answer(a, e), a, e);
            }
            case 12: return same("nearest", x.nearest(a, c), model.nearest(a, c), a, c);
            case 13: return same("hint", x.hint(a), model.hint(a), a);
            case 14: return same("needed", x.needed(a), model.needed(a), a);
            case 15: {
                int l = near(10);
                return same("lean", x.lean(a, l), model.lean(a, l), a, l);
            }
            case 16: return same("leans", x.leans(b, d), model.leans(b, d), b, d);
            case 17: return same("pairs", x.pairs(b, d), model.pairs(b, d), b, d);
            case 18: return same("balance", x.balance(b), model.balance(b), b);
            default: {
                int f = near(4), limit = upTo(2) == 0 ? near(30) : near(2001);
                return same("find", x.find(a, f, limit, d), model.find(a, f, limit, d), a, f, limit, d);
            }
        }
    }

    private boolean laterCalls(int which) {
        int a = near(8), b = near(6), d = near(3), s = near(4), f = near(4), k = near(20);
        int seed = upTo(9) == 0 ? 99976 + upTo(30) : near(100000), n = near(25);
        switch (which) {
            case 20: {
                int limit = near(201);
                return same("heap", x.heap(b, seed, n, f, limit, d), model.heap(b, seed, n, f, limit, d), b, seed, n, f, limit, d);
            }
            case 21: {
                int other = near(6);
                return same("apart", x.apart(b, other, seed, n, d), model.apart(b, other, seed, n, d), b, other, seed, n, d);
            }
            case 22: case 23: return twinAlike(a, s);
            case 24: case 25: {
                int limit = upTo(3) > 0 ? near(20) : near(2001);
                return same("claim", x.claim(a, limit), model.claim(a, limit), a, limit);
            }
            case 26: case 27: return same("tries", x.tries(k, f), model.tries(k, f), k, f);
            case 28: return same("claimTold", x.claimTold(k, f), model.claimTold(k, f), k, f);
            case 29: {
                int is = near(4), wide = near(4);
                return same("kindTold", x.kindTold(b, is, wide, d), model.kindTold(b, is, wide, d), b, is, wide, d);
            }
            case 30: return same("count", x.count(f), model.count(f), f);
            case 31: return upTo(3) > 0 || same("image", x.image(), model.image());
            case 32: return same("back", x.back(), model.back());
            case 33: {
                int sort = near(4) - 1, size = near(41);
                return same("sheet", x.sheet(s, sort, size), model.sheet(s, sort, size), s, sort, size);
            }
            case 34: case 35: {
                int i = near(12), v = upTo(2) == 0 ? near(1024) : near(8);
                return same("cell", x.cell(s, i, v), model.cell(s, i, v), s, i, v);
            }
            case 36: {
                int other = near(4), i = near(9), j = near(9), m = near(9);
                return same("copy", x.copy(s, i, other, j, m), model.copy(s, i, other, j, m), s, i, other, j, m);
            }
            case 37: case 38: {
                int sort = near(3), from = near(9), m = near(21);
                return same("claims", x.claims(s, sort, from, m), model.claims(s, sort, from, m), s, sort, from, m);
            }
            default: {
                int as = near(8);
                return same("taken", x.taken(d, k % 9, as), model.taken(d, k % 9, as), d, k % 9, as);
            }
        }
    }

    private boolean feedsAlike(boolean whole) {
        String text = whole ? text() : spoilt(text());
        told.append("'").append(text).append("' ");
        for (int i = 0; i < text.length(); i += 8) {
            int n = Math.min(8, text.length() - i);
            long w = Check.packed(text.substring(i, i + n)) | (n < 8 ? (long) upTo(1 << 20) << 8 * n : 0);
            if (!same("feed", x.feed(w, n), model.feed(w, n), n)) {
                return false;
            }
        }
        return upTo(30) == 0 || same("recipe", x.recipe(), model.recipe());
    }

    /** A recipe, mostly as it may be. */
    private String text() {
        int kind = upTo(6), many = 1 + upTo(10), wide = 1 + upTo(Math.min(3, many));
        StringBuilder text = new StringBuilder();
        text.append('k').append(kind).append(blanks()).append('n').append(many).append(blanks());
        text.append('c').append(upTo(25)).append(blanks()).append('w').append(wide);
        for (int is = 0; is <= wide; is++) {
            boolean may = Model.holds(kind, is, wide) && upTo(5) > 0;
            text.append(blanks()).append(may ? upTo(2) == 0 ? upTo(5) : upTo(100) : 0);
        }
        return text.toString();
    }

    private String blanks() {
        return upTo(6) == 0 ? "  " : " ";
    }

    private String spoilt(String text) {
        String signs = " 0123456789kncwx-";
        int at = upTo(text.length());
        char sign = signs.charAt(upTo(signs.length()));
        switch (upTo(4)) {
            case 0: return text.substring(0, at);
            case 1: return text.substring(0, at) + text.substring(at + 1);
            case 2: return text.substring(0, at) + sign + text.substring(at + 1);
            default: return text.substring(0, at) + sign + text.substring(at);
        }
    }

    private boolean wildAlike(int kind, int s) {
        int many = upTo(20) == 0 ? near(11) : 1 + upTo(10), clauses = upTo(21);
        if (upTo(4) > 0) {
            int sort = upTo(3);
            boolean fits = same("sheet", x.sheet(s, sort, 2 * clauses), model.sheet(s, sort, 2 * clauses), s, sort, 2 * clauses);
            for (int i = 0; i < 2 * clauses && fits && s >= 0 && s < 4; i += 2) {
                int all = 1 << upTo(Math.max(1, many)) | 1 << upTo(Math.max(1, many)) | 1 << upTo(Math.max(1, many));
                int plain = all & upTo(1024), against = upTo(150) == 0 ? upTo(1024) : all & ~plain;
                fits = same("cell", x.cell(s, i, plain), model.cell(s, i, plain), s, i, plain)
                    && same("cell", x.cell(s, i + 1, against), model.cell(s, i + 1, against), s, i + 1, against);
            }
            if (!fits) {
                return false;
            }
        }
        return same("wild", x.wild(kind, many, s), model.wild(kind, many, s), kind, many, s);
    }

    private boolean twinAlike(int t, int s) {
        int many = model.taskTold(t, 1), turned = many > 0 ? near(1 << many) : 0;
        if (many > 0 && upTo(4) > 0) {
            int[] order = new int[many];
            for (int i = 0; i < many; i++) {
                int j = upTo(i + 1);
                order[i] = order[j];
                order[j] = i;
            }
            if (upTo(8) == 0) {
                order[upTo(many)] = near(many);
            }
            int sort = upTo(3);
            boolean fits = same("sheet", x.sheet(s, sort, many), model.sheet(s, sort, many), s, sort, many);
            for (int i = 0; i < many && fits; i++) {
                fits = same("cell", x.cell(s, i, order[i]), model.cell(s, i, order[i]), s, i, order[i]);
            }
            if (!fits) {
                return false;
            }
        }
        return same("twin", x.twin(t, s, turned), model.twin(t, s, turned), t, s, turned);
    }
}
