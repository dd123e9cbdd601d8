/**
 * Which of several grounds for a refusal is told, and that a refusal changes nothing: each call is spoilt in every way that
 * its grounds leave, one or more at once.
 */
final class RefusalEdges {
    private static final int NONE = -1, BAD = -2, STATE = -3, FULL = -4, ABSENT = -5, WHAT = -7;
    private static final int NOTHING = -11, OUTSIDE = -12, SORT = -13, BELOW = -14;
    private static final String RECIPE = "k0 n2 c2 w1 0 1";

    private RefusalEdges() {
    }

    /** An object made ready for a call, with some of its grounds spoilt (bits). */
    private interface Ready {
        HiddenWorks with(int spoilt);
    }

    private interface Call {
        long on(HiddenWorks x, int spoilt);
    }

    static void run() {
        Doc.term("REFUSALS, of several the first one told: NONE there is no such RECIPE, TASK, CLAIM, SHEET; BAD a number is not "
            + "as told; STATE as told; FULL. The host's: -11 nothing there, -12 a place outside, -13 of another sort or KIND, -14 "
            + "a size below 0. They change nothing.");
        tapeAndRecipes();
        makeTasks();
        toldOfTasks();
        answers();
        leans();
        finders();
        twins();
        claims();
        images();
        sheets();
        copies();
        claimsBySheet();
        taken();
    }

    private static boolean has(int spoilt, int ground) {
        return (spoilt >> ground & 1) == 1;
    }

    /** All ways to spoil a call: the first ground's number is due, and the object is as one on which it wasn't called. */
    private static void refused(String name, int[] due, Ready ready, Call call) {
        for (int spoilt = 1; spoilt < 1 << due.length; spoilt++) {
            HiddenWorks x = ready.with(spoilt), other = ready.with(spoilt);
            String told = name + " spoilt by " + Integer.toBinaryString(spoilt);
            Check.due(told, call.on(x, spoilt), due[Integer.numberOfTrailingZeros(spoilt)]);
            Check.due(told + " changes nothing", all(x).equals(all(other)));
        }
        Check.due(name + " not spoilt", call.on(ready.with(0), 0) >= 0);
    }

    /** All that an object tells; at last it is brought back to its image, and claims by its sheets are tried. */
    private static String all(HiddenWorks x) {
        StringBuilder told = new StringBuilder();
        for (int what = 0; what < 4; what++) {
            told.append(x.count(what)).append(' ');
        }
        for (int r = 0; r < x.count(1); r++) {
            for (int what = 0; what < 8; what++) {
                told.append(x.recipeTold(r, what)).append(' ');
            }
        }
        for (int t = 0; t < x.count(0); t++) {
            for (int what = 0; what < 6; what++) {
                told.append(x.taskTold(t, what)).append(' ');
            }
            for (int c = 0; c < 4; c++) {
                told.append(x.clauseTold(t, c % 2, c / 2)).append(' ');
            }
        }
        claimsTold(x, told);
        told.append(x.recipe()).append(' ').append(x.back()).append(' ');
        for (int s = 0; s < 4; s++) {
            for (int sort = 0; sort < 3; sort++) {
                told.append(x.claims(s, sort, 0, 3)).append(' ');
            }
            told.append(x.wild(0, 10, s)).append(' ').append(x.twin(0, s, 0)).append(' ');
        }
        claimsTold(x, told);
        return told.toString();
    }

    private static void claimsTold(HiddenWorks x, StringBuilder told) {
        for (int k = 0; k < x.count(2); k++) {
            for (int what = 0; what < 4; what++) {
                told.append(x.claimTold(k, what)).append(' ');
            }
        }
    }

    /** A recipe; tasks 0, which has two answers, and 1, which has none; a claim of task 0; sheet 0 with one clause. */
    private static HiddenWorks furnished() {
        HiddenWorks x = new HiddenWorks();
        Check.recipe(x, RECIPE);
        Check.wild(x, 0, 2, 1, 0);
        Check.wild(x, 0, 2, 1, 0, 0, 1);
        x.sheet(3, -1, 0);
        Check.sheet(x, 0, 2, 0, 2, 0, 3);
        x.claim(0, 9);
        x.image();
        Check.feed(x, "k0 n");
        return x;
    }

    private static HiddenWorks fullOfTasks() {
        HiddenWorks x = furnished();
        for (int t = 2; t < 8; t++) {
            x.make(0, t);
        }
        return x;
    }

    private static HiddenWorks fullOfRecipes() {
        HiddenWorks x = new HiddenWorks();
        for (int r = 0; r < 6; r++) {
            Check.recipe(x, RECIPE);
        }
        return x;
    }

    private static void tapeAndRecipes() {
        refused("feed", new int[] {BAD, FULL}, spoilt -> {
            HiddenWorks x = furnished();
            x.recipe();
            Check.feed(x, has(spoilt, 1) ? " ".repeat(80) : "k");
            return x;
        }, (x, spoilt) -> x.feed(-1L, has(spoilt, 0) ? 9 : 1));
        HiddenWorks full = fullOfRecipes();
        Check.feed(full, "k9");
        Check.due("FULL ahead of a fault", full.recipe(), FULL);
        Check.due("it changes nothing", full.count(3), 2);
        refused("recipeTold", new int[] {ABSENT, WHAT}, spoilt -> furnished(),
            (x, spoilt) -> x.recipeTold(has(spoilt, 0) ? 1 : 0, has(spoilt, 1) ? 6 : 5));
        refused("count", new int[] {BAD}, spoilt -> furnished(), (x, spoilt) -> x.count(has(spoilt, 0) ? 4 : 3));
    }

    private static void makeTasks() {
        refused("make", new int[] {NONE, BAD, FULL}, spoilt -> has(spoilt, 2) ? fullOfTasks() : furnished(),
            (x, spoilt) -> x.make(has(spoilt, 0) ? 1 : 0, has(spoilt, 1) ? 100000 : 99999));
        refused("wild", new int[] {NONE, BAD, BAD, NOTHING, FULL}, spoilt -> {
            HiddenWorks x = has(spoilt, 4) ? fullOfTasks() : furnished();
            if (has(spoilt, 3)) {
                x.sheet(0, -1, 0);
            }
            return x;
        }, (x, spoilt) -> x.wild(has(spoilt, 1) ? 6 : 5, has(spoilt, 2) ? 11 : 2, has(spoilt, 0) ? 4 : 0));
        refused("wild by a spoilt sheet", new int[] {NONE, BAD, BAD, BAD, FULL}, spoilt -> {
            HiddenWorks x = has(spoilt, 4) ? fullOfTasks() : furnished();
            Check.sheet(x, 0, 2, has(spoilt, 2) ? new int[] {0, 2, 1} : new int[] {0, 2});
            x.cell(0, 0, has(spoilt, 3) ? 2 : 0);
            return x;
        }, (x, spoilt) -> x.wild(has(spoilt, 1) ? -1 : 0, 2, has(spoilt, 0) ? -1 : 0));
    }

    private static void toldOfTasks() {
        refused("taskTold", new int[] {ABSENT, WHAT}, spoilt -> furnished(),
            (x, spoilt) -> x.taskTold(has(spoilt, 0) ? 2 : 1, has(spoilt, 1) ? 6 : 2));
        refused("clauseTold", new int[] {ABSENT, ABSENT, WHAT}, spoilt -> furnished(),
            (x, spoilt) -> x.clauseTold(has(spoilt, 0) ? 2 : 1, has(spoilt, 1) ? 2 : 1, has(spoilt, 2) ? 2 : 1));
        refused("kindTold", new int[] {BAD, BAD, BAD, BAD}, spoilt -> furnished(),
            (x, spoilt) -> x.kindTold(has(spoilt, 0) ? 6 : 0, has(spoilt, 2) ? 5 : 1, has(spoilt, 1) ? 4 : 3, has(spoilt, 3) ? 2 : 1));
    }

    private static void answers() {
        refused("solves", new int[] {ABSENT, BAD}, spoilt -> furnished(),
            (x, spoilt) -> x.solves(has(spoilt, 0) ? 2 : 1, has(spoilt, 1) ? 4 : 3));
        refused("answers", new int[] {ABSENT, BAD, BAD}, spoilt -> furnished(),
            (x, spoilt) -> x.answers(has(spoilt, 0) ? 2 : 0, has(spoilt, 1) ? 5 : 1, has(spoilt, 2) ? 2 : 1));
        refused("answer", new int[] {ABSENT, NONE}, spoilt -> furnished(),
            (x, spoilt) -> x.answer(has(spoilt, 0) ? 2 : 0, has(spoilt, 1) ? 2 : 1));
        refused("nearest", new int[] {ABSENT, BAD, NONE}, spoilt -> furnished(),
            (x, spoilt) -> x.nearest(has(spoilt, 0) ? 2 : has(spoilt, 2) ? 1 : 0, has(spoilt, 1) ? 4 : 3));
        refused("hint", new int[] {ABSENT, NONE}, spoilt -> furnished(),
            (x, spoilt) -> x.hint(has(spoilt, 0) ? 2 : has(spoilt, 1) ? 1 : 0));
        refused("needed", new int[] {ABSENT}, spoilt -> furnished(), (x, spoilt) -> x.needed(has(spoilt, 0) ? 2 : 1));
    }

    private static void leans() {
        refused("lean", new int[] {-1000, -1000}, spoilt -> furnished(),
            (x, spoilt) -> x.lean(has(spoilt, 0) ? 2 : 1, has(spoilt, 1) ? 2 : 1));
        refused("leans", new int[] {1, 1}, spoilt -> furnished(),
            (x, spoilt) -> x.leans(has(spoilt, 0) ? 1 : 0, has(spoilt, 1) ? 2 : 1) == HiddenWorks.NO ? 1 : 0);
        refused("pairs", new int[] {1, 1}, spoilt -> furnished(),
            (x, spoilt) -> x.pairs(has(spoilt, 0) ? 1 : 0, has(spoilt, 1) ? 2 : 1) == HiddenWorks.NO ? 1 : 0);
        refused("balance", new int[] {ABSENT}, spoilt -> {
            HiddenWorks x = furnished();
            x.recipe();
            Check.recipe(x, "k0 n2 c0 w2 0 1 0");
            return x;
        }, (x, spoilt) -> x.balance(has(spoilt, 0) ? 2 : 1));
        Check.due("what balances by none", furnished().balance(0), NONE);
    }

    private static void finders() {
        refused("find", new int[] {ABSENT, BAD, BAD, BAD}, spoilt -> furnished(), (x, spoilt) ->
            x.find(has(spoilt, 0) ? 2 : 0, has(spoilt, 1) ? 4 : 3, has(spoilt, 2) ? 2001 : 2000, has(spoilt, 3) ? 3 : 2));
        refused("heap", new int[] {ABSENT, BAD, BAD, BAD, BAD, BAD}, spoilt -> furnished(), (x, spoilt) ->
            x.heap(has(spoilt, 0) ? 1 : 0, has(spoilt, 1) ? -1 : 0, has(spoilt, 2) ? 25 : 24, has(spoilt, 3) ? 4 : 3,
                has(spoilt, 4) ? 201 : 200, has(spoilt, 5) ? 3 : 2));
        refused("apart", new int[] {ABSENT, ABSENT, BAD, BAD, BAD}, spoilt -> furnished(), (x, spoilt) ->
            x.apart(has(spoilt, 0) ? 1 : 0, has(spoilt, 1) ? 1 : 0, has(spoilt, 2) ? -1 : 0, has(spoilt, 3) ? 25 : 24,
                has(spoilt, 4) ? 2 : 1));
    }

    private static void twins() {
        refused("twin", new int[] {NONE, NONE, NOTHING, BAD, FULL}, spoilt -> {
            HiddenWorks x = has(spoilt, 4) ? fullOfTasks() : furnished();
            Check.sheet(x, 0, 2, 1, 0);
            if (has(spoilt, 2)) {
                x.sheet(0, -1, 0);
            }
            return x;
        }, (x, spoilt) -> x.twin(has(spoilt, 0) ? 8 : 1, has(spoilt, 1) ? 4 : 0, has(spoilt, 3) ? 4 : 3));
        refused("twin by a spoilt sheet", new int[] {NONE, NONE, BAD, BAD, FULL}, spoilt -> {
            HiddenWorks x = has(spoilt, 4) ? fullOfTasks() : furnished();
            Check.sheet(x, 0, 2, has(spoilt, 2) ? new int[] {1, 0, 2} : new int[] {1, 0});
            x.cell(0, 1, has(spoilt, 3) ? 1 : 0);
            return x;
        }, (x, spoilt) -> x.twin(has(spoilt, 0) ? -1 : 0, has(spoilt, 1) ? -1 : 0, 0));
    }

    private static void claims() {
        refused("claim", new int[] {NONE, BAD, FULL}, spoilt -> {
            HiddenWorks x = furnished();
            for (int k = 1; k < 20 && has(spoilt, 2); k++) {
                x.claim(1, k);
            }
            return x;
        }, (x, spoilt) -> x.claim(has(spoilt, 0) ? 2 : 1, has(spoilt, 1) ? 2001 : 2000));
        refused("tries", new int[] {NONE, BAD, STATE}, spoilt -> {
            HiddenWorks x = furnished();
            if (has(spoilt, 2)) {
                Check.due("broken", x.tries(0, 3), 2);
            }
            return x;
        }, (x, spoilt) -> x.tries(has(spoilt, 0) ? 1 : 0, has(spoilt, 1) ? 4 : 3));
        refused("claimTold", new int[] {ABSENT, WHAT}, spoilt -> furnished(),
            (x, spoilt) -> x.claimTold(has(spoilt, 0) ? 1 : 0, has(spoilt, 1) ? 4 : 2));
    }

    private static void images() {
        refused("back", new int[] {STATE}, spoilt -> {
            HiddenWorks x = new HiddenWorks();
            if (!has(spoilt, 0)) {
                x.image();
            }
            Check.wild(x, 0, 1, 1, 0);
            x.claim(0, 3);
            return x;
        }, (x, spoilt) -> x.back());
    }

    private static void sheets() {
        refused("sheet", new int[] {BAD, BAD, BELOW}, spoilt -> furnished(),
            (x, spoilt) -> x.sheet(has(spoilt, 0) ? 4 : 0, has(spoilt, 1) ? 3 : 0, has(spoilt, 2) ? -1 : 2));
        refused("sheet too long", new int[] {BAD, BAD, BAD}, spoilt -> furnished(),
            (x, spoilt) -> x.sheet(has(spoilt, 0) ? -1 : 0, has(spoilt, 1) ? -2 : 0, has(spoilt, 2) ? 41 : 40));
        refused("cell", new int[] {BAD, NOTHING, OUTSIDE}, spoilt -> furnished(),
            (x, spoilt) -> x.cell(has(spoilt, 0) ? 4 : has(spoilt, 1) ? 1 : 0, has(spoilt, 2) ? 4 : 3, 77));
    }

    private static void copies() {
        for (int[] out : new int[][] {{4, 0, 1}, {0, 4, 1}, {0, 0, 5}, {0, 0, -1}, {-1, 0, 1}, {0, -1, 1}}) {
            refused("copy", new int[] {BAD, BAD, NOTHING, SORT, OUTSIDE}, spoilt -> {
                HiddenWorks x = furnished();
                Check.sheet(x, 1, has(spoilt, 3) ? 1 : 2, 0, 4, 0, 5);
                if (has(spoilt, 2)) {
                    x.sheet(1, -1, 0);
                }
                return x;
            }, (x, spoilt) -> has(spoilt, 4)
                ? x.copy(has(spoilt, 0) ? 4 : 0, out[0], has(spoilt, 1) ? -1 : 1, out[1], out[2])
                : x.copy(has(spoilt, 0) ? 4 : 0, 0, has(spoilt, 1) ? -1 : 1, 0, 4));
        }
    }

    private static void claimsBySheet() {
        refused("claims", new int[] {BAD, BAD, BAD, NOTHING, SORT, OUTSIDE}, spoilt -> {
            HiddenWorks x = furnished();
            if (has(spoilt, 3)) {
                x.sheet(0, -1, 0);
            }
            return x;
        }, (x, spoilt) -> x.claims(has(spoilt, 0) ? 4 : 0, has(spoilt, 1) ? 3 : has(spoilt, 4) ? 1 : 2, has(spoilt, 5) ? 3 : 2,
            has(spoilt, 2) ? 21 : 1));
    }

    private static void taken() {
        for (int what = 0; what < 3; what++) {
            int type = what;
            refused("taken", new int[] {BAD, BAD, NOTHING, SORT}, spoilt -> furnished(), (x, spoilt) ->
                x.taken(has(spoilt, 0) ? 3 : type, has(spoilt, 2) ? 2 : 0,
                    has(spoilt, 1) ? 8 : has(spoilt, 3) ? 4 : type == 0 ? 0 : 5 + type));
        }
    }
}
