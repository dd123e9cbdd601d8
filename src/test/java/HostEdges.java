/** The edges of the host's sheets, and of what is taken: the end of the terms' third part, promises 30 to 34. */
final class HostEdges {
    private static final int LOW = Integer.MIN_VALUE, HIGH = Integer.MAX_VALUE;

    private HostEdges() {
    }

    static void run() {
        missingAtFirst();
        sortsOfSheets();
        fortyAtMost();
        allZero();
        missingAgain();
        sheetRefused();
        bitsOfCells();
        cellRefused();
        copied();
        copiedAsTheyWere();
        copyRefused();
        copyOutside();
        claimsBySheet();
        othersAreLeftOut();
        claimsRefused();
        whatStoodAheadCame();
        takenAsKinds();
        takenAsOthers();
        takenRefused();
    }

    /** Tasks of one letter, and a sheet of pairs: what is claimed by a sheet tells what is in it. */
    private static HiddenWorks withTask() {
        HiddenWorks x = new HiddenWorks();
        Check.wild(x, 0, 1, 1, 0);
        x.sheet(3, -1, 0);
        return x;
    }

    /** How many numbers a sheet of a sort has; -1 if it isn't of that sort. */
    private static int sizeOf(HiddenWorks x, int s, int sort) {
        if (x.claims(s, sort, 0, 0) != 0) {
            return -1;
        }
        int size = 0;
        while (size < 50 && x.copy(s, size, s, size, 1) == 1) {
            size++;
        }
        return size;
    }

    private static void missingAtFirst() {
        Doc.term("SHEETS 0 .. 3 are rows of numbers, or missing (as all are at first):");
        HiddenWorks x = withTask();
        for (int s = 0; s < 4; s++) {
            HiddenWorks y = new HiddenWorks();
            Check.due("cell of " + s, y.cell(s, 0, 0), -11);
            Check.due("copy from " + s, y.copy(s, 0, s, 0, 0), -11);
            Check.due("claims by " + s, y.claims(s, 0, 0, 0), -11);
            Check.due("wild by " + s, y.wild(0, 1, s), -11);
            Check.due("twin by " + s, x.twin(0, s, 0), -11);
            for (int other = 0; other < 4; other++) {
                y.sheet(other, 2, 1);
            }
            Check.due("the last is there", y.cell(s, 0, 1), 1);
        }
        for (int s : new int[] {-1, 4, LOW, HIGH}) {
            Check.due("no sheet " + s, x.sheet(s, 0, 0), -2);
        }
    }

    private static void sortsOfSheets() {
        Doc.term("of sort 0 bytes, 1 shorts, 2 ints,");
        HiddenWorks x = new HiddenWorks();
        for (int sort = 0; sort < 3; sort++) {
            Check.due("sort " + sort, x.sheet(1, sort, 2), 1);
            for (int as = 0; as < 3; as++) {
                Check.due("sort " + sort + " as " + as, x.claims(1, as, 0, 0), sort == as ? 0 : -13);
                x.sheet(2, as, 2);
                Check.due("sort " + sort + " to " + as, x.copy(1, 0, 2, 0, 2), sort == as ? 2 : -13);
            }
        }
    }

    private static void fortyAtMost() {
        Doc.term("40 at most.");
        for (int sort = 0; sort < 3; sort++) {
            HiddenWorks x = new HiddenWorks();
            Check.due("forty", x.sheet(0, sort, 40), 1);
            Check.due("they are there", sizeOf(x, 0, sort), 40);
            Check.due("the last", x.cell(0, 39, 1), 1);
            Check.due("behind it", x.cell(0, 40, 1), -12);
            Check.due("41", x.sheet(0, sort, 41), -2);
            Check.due("forty are left", sizeOf(x, 0, sort), 40);
            Check.due("none", x.sheet(0, sort, 0), 1);
            Check.due("none is there", sizeOf(x, 0, sort), 0);
            Check.due("not the first", x.cell(0, 0, 1), -12);
        }
    }

    private static void allZero() {
        Doc.promise(30, "A SHEET becomes a row of n of a sort, all 0,");
        HiddenWorks x = withTask();
        for (int sort = 0; sort < 3; sort++) {
            Check.sheet(x, 0, sort, 0, 5, 0, 6, 0, 7);
            Check.due("three come", x.claims(0, sort, 0, 3), 3);
            Check.due("again", x.sheet(0, sort, 6), 1);
            Check.due("none comes", x.claims(0, sort, 0, 3), 0);
            Check.due("shorter", x.sheet(0, sort, 2), 1);
            Check.due("longer", x.sheet(0, sort, 6), 1);
            x.cell(0, 1, 9);
            Check.due("one comes", x.claims(0, sort, 0, 3), 1);
            Check.due("six are there", sizeOf(x, 0, sort), 6);
        }
    }

    private static void missingAgain() {
        Doc.promise(30, "or missing (sort -1: n does not matter): 1.");
        for (int n : new int[] {0, 1, 40, 41, -1, LOW, HIGH}) {
            HiddenWorks x = new HiddenWorks();
            Check.due("missing, n " + n, x.sheet(0, -1, n), 1);
            Check.due("as it was", x.cell(0, 0, 0), -11);
            x.sheet(0, 2, 3);
            Check.due("missing again, n " + n, x.sheet(0, -1, n), 1);
            Check.due("so it is", x.cell(0, 0, 0), -11);
            Check.due("there again", x.sheet(0, 0, 1), 1);
            Check.due("so it is", x.cell(0, 0, 0), 1);
        }
    }

    private static void sheetRefused() {
        Doc.promise(30, "BAD: SHEET, sort, n above 40; -14.");
        HiddenWorks x = new HiddenWorks();
        x.sheet(0, 2, 3);
        for (int s : new int[] {-1, 4, LOW, HIGH}) {
            Check.due("sheet " + s, x.sheet(s, 0, 1), -2);
            Check.due("sheet " + s + ", missing", x.sheet(s, -1, 1), -2);
            Check.due("sheet " + s + ", ahead of n", x.sheet(s, 0, -1), -2);
        }
        for (int sort : new int[] {-2, 3, LOW, HIGH}) {
            Check.due("sort " + sort, x.sheet(0, sort, 1), -2);
            Check.due("sort " + sort + ", ahead of n", x.sheet(0, sort, -1), -2);
        }
        for (int n : new int[] {41, HIGH}) {
            Check.due("n " + n, x.sheet(0, 0, n), -2);
        }
        for (int n : new int[] {-1, LOW}) {
            Check.due("n " + n, x.sheet(0, 0, n), -14);
        }
        Check.due("three ints are left", sizeOf(x, 0, 2), 3);
        for (int s = 0; s < 4; s++) {
            Check.due("sheet " + s, x.sheet(s, 0, 0), 1);
            Check.due("sheet " + s, x.sheet(s, 2, 40), 1);
        }
    }

    /** What a number in a sheet is, seen as the steps of a claim: those of it, or 0 if there can't be such a claim. */
    private static int stepsBy(int sort, int v) {
        HiddenWorks x = withTask();
        x.sheet(0, sort, 2);
        Check.due("cell", x.cell(0, 1, v), 1);
        return x.claims(0, sort, 0, 1) == 1 ? x.claimTold(0, 1) : 0;
    }

    private static void bitsOfCells() {
        Doc.promise(31, "Number i of a SHEET becomes v (of bytes, shorts its lowest 8, 16 bits): 1.");
        int[][] bytes = {{127, 127}, {128, 0}, {255, 0}, {256, 0}, {257, 1}, {-129, 127}, {-1, 0}, {HIGH, 0}, {LOW, 0},
            {LOW + 5, 5}, {512 + 64, 64}};
        int[][] shorts = {{127, 127}, {128, 128}, {255, 255}, {2000, 2000}, {2001, 0}, {65536, 0}, {65537, 1},
            {65536 + 2000, 2000}, {-65536 + 300, 300}, {32768 + 5, 0}, {LOW + 5, 5}, {HIGH, 0}};
        int[][] ints = {{127, 127}, {255, 255}, {2000, 2000}, {2001, 0}, {65537, 0}, {LOW + 5, 0}, {HIGH, 0}, {-1, 0}};
        for (int[] v : bytes) {
            Check.due("byte " + v[0], stepsBy(0, v[0]), v[1]);
        }
        for (int[] v : shorts) {
            Check.due("short " + v[0], stepsBy(1, v[0]), v[1]);
        }
        for (int[] v : ints) {
            Check.due("int " + v[0], stepsBy(2, v[0]), v[1]);
        }
    }

    private static void cellRefused() {
        Doc.promise(31, "BAD: SHEET; -11; -12.");
        HiddenWorks x = new HiddenWorks();
        for (int s : new int[] {-1, 4, LOW, HIGH}) {
            Check.due("sheet " + s, x.cell(s, 0, 0), -2);
        }
        Check.due("missing, ahead of its place", x.cell(0, -1, 0), -11);
        for (int n : new int[] {0, 1, 40}) {
            x.sheet(3, 0, n);
            for (int i : new int[] {-1, n, 40, LOW, HIGH}) {
                Check.due("place " + i + " of " + n, x.cell(3, i, 0), -12);
            }
            Check.due("the first of " + n, x.cell(3, 0, 0), n > 0 ? 1 : -12);
            Check.due("the last of " + n, x.cell(3, n - 1, 0), n > 0 ? 1 : -12);
        }
        Check.due("the sheet ahead of its place", x.cell(4, -1, 0), -2);
    }

    /** The steps that a sheet of (0, steps) pairs has, told by claims. */
    private static void steps(HiddenWorks x, int s, int sort, int... due) {
        int from = x.count(2);
        Check.due("pairs", x.claims(s, sort, 0, due.length), due.length);
        for (int i = 0; i < due.length; i++) {
            Check.due("pair " + i, x.claimTold(from + i, 1), due[i]);
        }
    }

    private static void copied() {
        Doc.promise(32, "n numbers of a SHEET, from i on, come to another one's");
        for (int sort = 0; sort < 3; sort++) {
            HiddenWorks x = withTask();
            Check.sheet(x, 0, sort, 0, 1, 0, 2, 0, 3);
            Check.sheet(x, 1, sort, 0, 4, 0, 5, 0, 6, 0, 7);
            Check.due("none", x.copy(0, 0, 1, 0, 0), 0);
            Check.due("none at the ends", x.copy(0, 6, 1, 8, 0), 0);
            steps(x, 1, sort, 4, 5, 6, 7);
            Check.due("the last to the last", x.copy(0, 5, 1, 7, 1), 1);
            steps(x, 1, sort, 4, 5, 6, 3);
            Check.due("two to the first", x.copy(0, 2, 1, 0, 2), 2);
            steps(x, 1, sort, 2, 5, 6, 3);
            Check.due("all to the end", x.copy(0, 0, 1, 2, 6), 6);
            steps(x, 1, sort, 2, 1, 2, 3);
            steps(x, 0, sort, 1, 2, 3);
        }
        HiddenWorks y = withTask();
        for (int s = 0; s < 4; s++) {
            Check.sheet(y, s, 2, 0, s + 1);
        }
        Check.due("from the last to the first", y.copy(3, 0, 0, 0, 2), 2);
        steps(y, 0, 2, 4);
        Check.due("from the second to the last", y.copy(1, 0, 3, 0, 2), 2);
        steps(y, 3, 2, 2);
    }

    private static void copiedAsTheyWere() {
        Doc.promise(32, "(or its own) place j (as they were): n.");
        HiddenWorks x = withTask();
        Check.sheet(x, 0, 1, 0, 1, 0, 2, 0, 3, 0, 4);
        Check.due("two places on", x.copy(0, 0, 0, 2, 6), 6);
        steps(x, 0, 1, 1, 1, 2, 3);
        Check.sheet(x, 0, 1, 0, 1, 0, 2, 0, 3, 0, 4);
        Check.due("two places back", x.copy(0, 2, 0, 0, 6), 6);
        steps(x, 0, 1, 2, 3, 4, 4);
        Check.due("to where they are", x.copy(0, 0, 0, 0, 8), 8);
        steps(x, 0, 1, 2, 3, 4, 4);
        Check.due("all that is claimed", x.count(2), 12);
    }

    private static void copyRefused() {
        Doc.promise(32, "BAD: SHEETS; -11; -13: unlike sorts;");
        HiddenWorks x = new HiddenWorks();
        x.sheet(0, 0, 2);
        x.sheet(1, 1, 2);
        for (int s : new int[] {-1, 4, LOW, HIGH}) {
            Check.due("from " + s, x.copy(s, 0, 0, 0, 1), -2);
            Check.due("to " + s, x.copy(0, 0, s, 0, 1), -2);
            Check.due("from " + s + ", ahead of missing", x.copy(s, 0, 2, 0, 1), -2);
            Check.due("to " + s + ", ahead of missing", x.copy(2, 0, s, 0, 1), -2);
        }
        Check.due("from a missing one", x.copy(2, 0, 0, 0, 1), -11);
        Check.due("to a missing one", x.copy(0, 0, 2, 0, 1), -11);
        Check.due("from missing to missing", x.copy(2, 0, 3, 0, 1), -11);
        Check.due("missing, ahead of its place", x.copy(0, -1, 2, 0, -1), -11);
        for (int a = 0; a < 3; a++) {
            for (int b = 0; b < 3; b++) {
                x.sheet(0, a, 2);
                x.sheet(1, b, 2);
                Check.due("sort " + a + " to " + b, x.copy(0, 0, 1, 0, 2), a == b ? 2 : -13);
                Check.due("ahead of its places", x.copy(0, -1, 1, 3, 9), a == b ? -12 : -13);
                Check.due("none of them", x.copy(0, 0, 1, 0, 0), a == b ? 0 : -13);
            }
        }
    }

    private static void copyOutside() {
        Doc.promise(32, "-12 (n below 0, too).");
        HiddenWorks x = withTask();
        Check.sheet(x, 0, 2, 0, 1, 0, 2);
        Check.sheet(x, 1, 2, 0, 3);
        int[][] wrong = {{-1, 0, 1}, {0, -1, 1}, {0, 0, -1}, {0, 0, 3}, {3, 0, 2}, {4, 0, 1}, {0, 2, 1}, {0, 1, 2}, {5, 0, 0},
            {0, 3, 0}, {-1, 0, 0}, {0, -1, 0}, {LOW, 0, 1}, {0, LOW, 1}, {0, 0, LOW}, {HIGH, 0, 1}, {0, HIGH, 1},
            {0, 0, HIGH}, {1, 0, HIGH}, {0, 1, HIGH}, {HIGH, HIGH, HIGH}, {LOW, LOW, LOW}};
        for (int[] w : wrong) {
            Check.due("from " + w[0] + " to " + w[1] + ", " + w[2], x.copy(0, w[0], 1, w[1], w[2]), -12);
        }
        Check.due("to a longer one", x.copy(1, 0, 0, 3, 2), -12);
        Check.due("from a shorter one", x.copy(1, 0, 0, 0, 3), -12);
        steps(x, 0, 2, 1, 2);
        steps(x, 1, 2, 3);
        Check.due("the last one", x.copy(0, 3, 1, 1, 1), 1);
        steps(x, 1, 2, 2);
    }

    private static void claimsBySheet() {
        Doc.promise(33, "CLAIMS by a SHEET of a sort: from a place on, two by two (as of claim()), n of them (0 .. 20): how many "
            + "came");
        for (int sort = 0; sort < 3; sort++) {
            HiddenWorks x = withTask();
            Check.wild(x, 0, 1);
            Check.sheet(x, 2, sort, 9, 0, 100, 1, 101, 0, 102);
            Check.due("none", x.claims(2, sort, 0, 0), 0);
            Check.due("none far outside", x.claims(2, sort, HIGH, 0), 0);
            Check.due("the last", x.claims(2, sort, 5, 1), 1);
            Check.due("all from 1 on", x.claims(2, sort, 1, 3), 3);
            int[][] due = {{0, 102}, {0, 100}, {1, 101}, {0, 102}};
            for (int k = 0; k < 4; k++) {
                Check.due("its task", x.claimTold(k, 0), due[k][0]);
                Check.due("its steps", x.claimTold(k, 1), due[k][1]);
                Check.due("it stands", x.claimTold(k, 2), 0);
                Check.due("by none", x.claimTold(k, 3), -1);
            }
        }
        HiddenWorks y = withTask();
        int[] forty = new int[40];
        for (int i = 0; i < 20; i++) {
            forty[2 * i + 1] = i + 1;
        }
        Check.sheet(y, 0, 0, forty);
        Check.due("twenty come", y.claims(0, 0, 0, 20), 20);
        Check.due("the last of them", y.claimTold(19, 1), 20);
    }

    private static void othersAreLeftOut() {
        Doc.promise(33, "(others are left out).");
        HiddenWorks x = withTask();
        Check.sheet(x, 0, 2, 1, 5, -1, 5, 0, 0, 0, 1, 0, 2001, 0, 2000, 0, -1, 8, 5, LOW, 5, 0, HIGH);
        Check.due("two of ten", x.claims(0, 2, 0, 10), 2);
        Check.due("the least", x.claimTold(0, 1), 1);
        Check.due("the most", x.claimTold(1, 1), 2000);
        for (int k = 2; k < 19; k++) {
            x.claim(0, 1);
        }
        Check.sheet(x, 0, 2, 0, 6, 0, 7, 0, 8);
        Check.due("one more, then it is full", x.claims(0, 2, 0, 3), 1);
        Check.due("the first of them", x.claimTold(19, 1), 6);
        Check.due("none", x.claims(0, 2, 0, 3), 0);
        Check.due("twenty", x.count(2), 20);
    }

    private static void claimsRefused() {
        Doc.promise(33, "BAD: SHEET, sort, n; -11; -13;");
        HiddenWorks x = withTask();
        x.sheet(0, 1, 4);
        for (int s : new int[] {-1, 4, LOW, HIGH}) {
            Check.due("sheet " + s, x.claims(s, 1, 0, 1), -2);
        }
        for (int sort : new int[] {-1, 3, LOW, HIGH}) {
            Check.due("sort " + sort, x.claims(0, sort, 0, 1), -2);
            Check.due("sort " + sort + " of a missing one", x.claims(1, sort, 0, 1), -2);
        }
        for (int n : new int[] {-1, 21, LOW, HIGH}) {
            Check.due(n + " of them", x.claims(0, 1, 0, n), -2);
            Check.due(n + " of them, ahead of missing", x.claims(1, 1, 0, n), -2);
            Check.due(n + " of them, ahead of another sort", x.claims(0, 2, 0, n), -2);
        }
        Check.due("missing", x.claims(1, 1, 0, 1), -11);
        Check.due("missing, none of them", x.claims(1, 1, 0, 0), -11);
        Check.due("missing, ahead of its place", x.claims(1, 1, -1, 1), -11);
        for (int sort : new int[] {0, 2}) {
            Check.due("of another sort", x.claims(0, sort, 0, 1), -13);
            Check.due("of another sort, none of them", x.claims(0, sort, 0, 0), -13);
            Check.due("ahead of its place", x.claims(0, sort, 4, 1), -13);
        }
        Check.due("nothing came", x.count(2), 0);
    }

    private static void whatStoodAheadCame() {
        Doc.promise(33, "-12: what stood ahead came.");
        HiddenWorks x = withTask();
        Check.sheet(x, 0, 2, 0, 1, 0, 2, 0);
        for (int from : new int[] {-1, -2, 4, 5, 6, 40, LOW, LOW + 1, HIGH, HIGH - 1}) {
            Check.due("from " + from, x.claims(0, 2, from, 1), -12);
            Check.due("twenty from " + from, x.claims(0, 2, from, 20), -12);
        }
        Check.due("nothing stood ahead", x.count(2), 0);
        Check.due("all that fit", x.claims(0, 2, 0, 2), 2);
        Check.due("one more", x.claims(0, 2, 0, 3), -12);
        Check.due("two stood ahead", x.count(2), 4);
        Check.due("the last of them", x.claimTold(3, 1), 2);
        Check.due("far more", x.claims(0, 2, 2, 20), -12);
        Check.due("one stood ahead", x.count(2), 5);
        x.sheet(1, 2, 0);
        Check.due("of an empty one", x.claims(1, 2, 0, 1), -12);
        Check.due("none of it", x.claims(1, 2, 0, 0), 0);
    }

    private static void takenAsKinds() {
        Doc.promise(34, "What lies at place i of 0 TASKS, 1 RECIPES, 2 CLAIMS, taken for 0 .. 5 a KIND (the TASK's; also of one "
            + "that is one): that KIND's number;");
        String[] isOne = {"0", "01", "02", "013", "024", "05"};
        HiddenWorks x = new HiddenWorks();
        for (int kind = 0; kind < 6; kind++) {
            Check.wild(x, kind, 1);
            for (int as = 0; as < 8; as++) {
                boolean is = as < 6 && isOne[kind].indexOf('0' + as) >= 0;
                Check.due("kind " + kind + " as " + as, x.taken(0, kind, as), is ? kind : -13);
            }
        }
    }

    private static void takenAsOthers() {
        Doc.promise(34, "6 a RECIPE: how WIDE; 7 a CLAIM: its steps.");
        HiddenWorks x = withTask();
        Check.recipe(x, "k0 n3 c0 w1 0 1");
        Check.recipe(x, "k4 n3 c0 w3 1 0 0 0");
        x.claim(0, 1);
        x.claim(0, 2000);
        int[] wide = {1, 3}, steps = {1, 2000};
        for (int i = 0; i < 2; i++) {
            for (int as = 0; as < 8; as++) {
                Check.due("recipe " + i + " as " + as, x.taken(1, i, as), as == 6 ? wide[i] : -13);
                Check.due("claim " + i + " as " + as, x.taken(2, i, as), as == 7 ? steps[i] : -13);
            }
        }
    }

    private static void takenRefused() {
        Doc.promise(34, "BAD: what, kind; -11: nothing lies there; -13.");
        HiddenWorks x = new HiddenWorks();
        for (int what = 0; what < 3; what++) {
            for (int as = 0; as < 8; as++) {
                Check.due("nothing at all", x.taken(what, 0, as), -11);
            }
        }
        Check.wild(x, 0, 1);
        Check.recipe(x, "k0 n3 c0 w2 0 1 0");
        x.claim(0, 5);
        for (int wrong : new int[] {-1, 3, LOW, HIGH}) {
            Check.due("what " + wrong, x.taken(wrong, 0, 0), -2);
            Check.due("what " + wrong + ", ahead of nothing", x.taken(wrong, 1, 0), -2);
        }
        for (int wrong : new int[] {-1, 8, LOW, HIGH}) {
            for (int what = 0; what < 3; what++) {
                Check.due("kind " + wrong, x.taken(what, 0, wrong), -2);
                Check.due("kind " + wrong + ", ahead of nothing", x.taken(what, 1, wrong), -2);
            }
        }
        for (int i : new int[] {-1, 1, 8, 20, LOW, HIGH}) {
            for (int what = 0; what < 3; what++) {
                for (int as = 0; as < 8; as += 7) {
                    Check.due("nothing at " + i + " of " + what, x.taken(what, i, as), -11);
                }
            }
        }
        int[] first = {0, 2, 5};
        for (int what = 0; what < 3; what++) {
            Check.due("what lies there", x.taken(what, 0, what == 0 ? 0 : 5 + what), first[what]);
        }
        x = new HiddenWorks();
        Check.wild(x, 0, 1);
        x.image();
        Check.wild(x, 0, 1);
        x.claim(1, 5);
        x.back();
        Check.due("a gone task", x.taken(0, 1, 0), -11);
        Check.due("a gone claim", x.taken(2, 0, 7), -11);
    }
}
