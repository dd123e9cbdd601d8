/** The edges of tasks and kinds: the terms' first part, promises 1, 5 to 8, and 26. */
final class TaskEdges {
    private static final int LOW = Integer.MIN_VALUE, HIGH = Integer.MAX_VALUE;

    private TaskEdges() {
    }

    static void run() {
        newObject();
        letters();
        clausesOfTasks();
        setsOfLetters();
        literals();
        howKindsHold();
        kindsOfTasks();
        solving();
        eightTasks();
        made();
        makeRefused();
        wild();
        wildRefusedAtFirst();
        wildRefusedByTheSheet();
        wildFull();
        taskTold();
        clauseTold();
        kindTold();
        kindTellsNothing();
    }

    private static void newObject() {
        Doc.promise(1, "No RECIPES, TASKS.");
        HiddenWorks x = new HiddenWorks();
        Check.due("TASKS", x.count(0), 0);
        Check.due("RECIPES", x.count(1), 0);
        Check.due("the first RECIPE", x.recipeTold(0, 0), -5);
        Check.due("the first TASK", x.taskTold(0, 0), -5);
    }

    private static void letters() {
        Doc.term("A TASK has LETTERS 0 .. n - 1 (n 1 .. 10)");
        for (int n : new int[] {1, 2, 9, 10}) {
            HiddenWorks x = new HiddenWorks();
            int last = 1 << n - 1;
            Check.due("the last of " + n + " letters", Check.wild(x, 0, n, last, 0), 0);
            Check.due("the last of " + n + ", against", Check.wild(x, 0, n, 0, last), 1);
            Check.due("so many letters", x.taskTold(0, 1), n);
            Check.due("it leans", x.lean(0, n - 1), 1);
            Check.due("the letter behind the last", x.lean(0, n), -1000);
            Check.due("it isn't in a clause", Check.wild(x, 0, n, 2 * last, 0), -2);
            Check.due("nor against in one", Check.wild(x, 0, n, 0, 2 * last), -2);
        }
        for (int n : new int[] {0, 11, -1, LOW, HIGH}) {
            Check.due(n + " letters", Check.wild(new HiddenWorks(), 0, n), -2);
        }
    }

    private static void clausesOfTasks() {
        Doc.term("and CLAUSES (24 at most)");
        HiddenWorks x = new HiddenWorks();
        Check.due("24", Check.recipe(x, "k0 n10 c24 w1 0 1"), 0);
        Check.due("25", Check.recipe(x, "k0 n10 c25 w1 0 1"), -108);
        Check.due("none", Check.recipe(x, "k0 n10 c0 w1 0 1"), 1);
        x.make(0, 5);
        x.make(1, 5);
        Check.due("a task has 24", x.taskTold(0, 2), 24);
        Check.due("the last", Integer.bitCount(x.clauseTold(0, 23, 0) + x.clauseTold(0, 23, 1)), 1);
        Check.due("none behind it", x.clauseTold(0, 24, 0), -5);
        Check.due("a task has none", x.taskTold(1, 2), 0);
        Check.due("not the first", x.clauseTold(1, 0, 0), -5);
    }

    private static void setsOfLetters() {
        Doc.term("each a set of letters that stand PLAIN and one of letters that stand AGAINST (bits; no letter in both; "
            + "WIDE: 1 to 3 together).");
        for (int plain = 0; plain < 16; plain++) {
            for (int against = 0; against < 16; against++) {
                int wide = Integer.bitCount(plain) + Integer.bitCount(against);
                boolean may = (plain & against) == 0 && wide >= 1 && wide <= 3;
                int got = Check.wild(new HiddenWorks(), 0, 4, plain, against);
                Check.due("a clause " + plain + " " + against, got, may ? 0 : -2);
            }
        }
        HiddenWorks x = new HiddenWorks();
        Check.due("three of ten", Check.wild(x, 0, 10, 512 | 2, 256), 0);
        Check.due("four of ten", Check.wild(x, 0, 10, 512 | 2, 256 | 1), -2);
    }

    private static void literals() {
        Doc.term("An ANSWER is a row of truths (bits). A literal is true by it: a PLAIN letter that is true, one AGAINST "
            + "that isn't.");
        HiddenWorks x = new HiddenWorks();
        Check.wild(x, 0, 2, 1, 0);
        Check.wild(x, 0, 2, 0, 1);
        Check.wild(x, 0, 2, 1, 2);
        int[][] due = {{0, -1, 0, -1}, {-1, 0, -1, 0}, {-1, -1, 0, -1}};
        for (int t = 0; t < 3; t++) {
            for (int row = 0; row < 4; row++) {
                Check.due("task " + t + " by " + row, x.solves(t, row), due[t][row]);
            }
        }
        Check.wild(x, 0, 10, 512, 0);
        Check.due("the last letter is true", x.solves(3, 512), -1);
        Check.due("all others are", x.solves(3, 511), 0);
    }

    /** Of a kind and a width: which of IS 0, 1, .. hold, and what each is worth. */
    private static void kind(int kind, int wide, String holds, int... worth) {
        HiddenWorks x = new HiddenWorks();
        Check.wild(x, kind, 4, (1 << wide) - 1, 0);
        Check.wild(x, kind, 4, 0, (1 << wide) - 1);
        for (int is = 0; is <= wide; is++) {
            String call = "kind " + kind + ", " + is + " of " + wide;
            int held = holds.charAt(is) - '0', row = (1 << is) - 1;
            Check.due(call, x.kindTold(kind, is, wide, 0), held);
            Check.due(call + ", worth", x.kindTold(kind, is, wide, 1), worth[is]);
            Check.due(call + ", in a task", x.solves(0, row), -held);
            Check.due(call + ", beside other letters", x.solves(0, row | 8), -held);
            Check.due(call + ", the letters against", x.solves(1, (1 << wide) - 1 & ~row), -held);
        }
    }

    private static void howKindsHold() {
        Doc.term("KINDS: 0 CLAUSE: IS above 0; WORTH 3 if it HOLDS, else 0.");
        kind(0, 1, "01", 0, 3);
        kind(0, 2, "011", 0, 3, 3);
        kind(0, 3, "0111", 0, 3, 3, 3);
        Doc.term("1 UNLIKE (a CLAUSE): as a CLAUSE, and IS below WIDE, or WIDE 1.");
        kind(1, 1, "01", 0, 3);
        kind(1, 2, "010", 0, 3, 0);
        kind(1, 3, "0110", 0, 3, 3, 0);
        Doc.term("2 UNEVEN (a CLAUSE): IS is odd.");
        kind(2, 1, "01", 0, 3);
        kind(2, 2, "010", 0, 3, 0);
        kind(2, 3, "0101", 0, 3, 0, 3);
        Doc.term("3 ONE (an UNLIKE): as an UNLIKE one, and IS 1; WORTH as a CLAUSE's (by what HOLDS so), 1 less if IS is 0.");
        kind(3, 1, "01", -1, 3);
        kind(3, 2, "010", -1, 3, 0);
        kind(3, 3, "0100", -1, 3, 0, 0);
        Doc.term("4 EVEN (an UNEVEN): just if an UNEVEN one doesn't HOLD.");
        kind(4, 1, "10", 3, 0);
        kind(4, 2, "101", 3, 0, 3);
        kind(4, 3, "1010", 3, 0, 3, 0);
        Doc.term("5 MOST (a CLAUSE): as a CLAUSE, and twice IS above WIDE; WORTH as a CLAUSE's (by what HOLDS so), and IS "
            + "more. (Whatever isn't told is as of the KIND above.)");
        kind(5, 1, "01", 0, 4);
        kind(5, 2, "001", 0, 1, 5);
        kind(5, 3, "0011", 0, 1, 5, 6);
    }

    /** The widths of a task's clauses may differ, its kind doesn't: one of three, then two, then a letter. */
    private static void kindsOfTasks() {
        Doc.term("By a CLAUSE's KIND (all of a TASK are of one) it HOLDS by how many of its literals are true (IS), of how "
            + "WIDE; and has a WORTH.");
        int[] firstBrokenByAll = {-1, 0, 1, 0, 0, -1};
        for (int kind = 0; kind < 6; kind++) {
            HiddenWorks x = new HiddenWorks();
            Check.wild(x, kind, 3, 7, 0, 3, 0, 1, 0);
            Check.due("kind " + kind + ", all are true", x.solves(0, 7), firstBrokenByAll[kind]);
            Check.due("kind " + kind + ", none is", x.solves(0, 0), kind == 4 ? -1 : 0);
        }
    }

    private static void solving() {
        Doc.term("An ANSWER SOLVES a TASK, if all CLAUSES HOLD.");
        HiddenWorks x = new HiddenWorks();
        Check.wild(x, 0, 1);
        Check.due("no clauses, false", x.solves(0, 0), -1);
        Check.due("no clauses, true", x.solves(0, 1), -1);
        int[] twenty = new int[40];
        for (int c = 0; c < 20; c++) {
            twenty[2 * c] = c < 19 ? 1 : 2;
        }
        Check.wild(x, 0, 2, twenty);
        Check.due("all twenty hold", x.solves(1, 3), -1);
        Check.due("the last doesn't", x.solves(1, 1), 19);
        Check.due("just the last does", x.solves(1, 2), 0);
    }

    /** A task by a recipe, by a sheet, or a twin of task 0. */
    private static int task(HiddenWorks x, int how) {
        if (how == 0) {
            return x.make(0, 1);
        }
        return how == 1 ? x.wild(0, 2, 0) : x.twin(0, 1, 0);
    }

    private static void eightTasks() {
        Doc.term("TASKS are numbered from 0 on, 8 at most: MADE by a RECIPE and a SEED (with the answer that was HIDDEN), "
            + "WILD, or a TWIN.");
        for (int how = 0; how < 3; how++) {
            HiddenWorks x = new HiddenWorks();
            Check.recipe(x, "k0 n2 c1 w1 0 1");
            Check.sheet(x, 0, 2, 1, 2);
            Check.sheet(x, 1, 2, 1, 0);
            for (int t = 0; t < 8; t++) {
                Check.due("task by " + how, task(x, t < 7 ? t % 2 : how), t);
            }
            Check.due("the last is told", x.taskTold(7, 1), 2);
            for (int other = 0; other < 3; other++) {
                Check.due("a ninth by " + other, task(x, other), -4);
            }
            Check.due("eight are kept", x.count(0), 8);
            Check.due("no ninth is told", x.taskTold(8, 1), -5);
        }
    }

    private static void made() {
        Doc.promise(5, "A TASK is MADE by a RECIPE and a SEED (0 .. 99999): its number.");
        HiddenWorks x = new HiddenWorks();
        Check.recipe(x, "k0 n2 c1 w1 0 1");
        Check.due("the first seed", x.make(0, 0), 0);
        Check.due("the last seed", x.make(0, 99999), 1);
        for (int seed : new int[] {-1, 100000, LOW, HIGH}) {
            Check.due("seed " + seed, x.make(0, seed), -2);
        }
        Check.due("none of them came", x.count(0), 2);
    }

    private static void makeRefused() {
        Doc.promise(5, "NONE; BAD; FULL.");
        HiddenWorks x = new HiddenWorks();
        Check.due("no recipe at all", x.make(0, 0), -1);
        for (int r = 0; r < 6; r++) {
            Check.recipe(x, "k0 n2 c1 w1 0 1");
            Check.due("the last recipe", x.make(r, 0), r);
            Check.due("the one behind it", x.make(r + 1, 0), -1);
        }
        for (int r : new int[] {-1, 6, LOW, HIGH}) {
            Check.due("recipe " + r, x.make(r, 0), -1);
        }
        x.make(0, 1);
        x.make(0, 2);
        Check.due("full", x.make(0, 3), -4);
        Check.due("NONE ahead of FULL", x.make(6, 3), -1);
        Check.due("BAD ahead of FULL", x.make(0, -1), -2);
        Check.due("NONE ahead of BAD", x.make(6, -1), -1);
    }

    private static void wild() {
        Doc.promise(6, "A WILD TASK by a SHEET (two by two: PLAIN, AGAINST; nothing HIDDEN): its number.");
        HiddenWorks x = new HiddenWorks();
        Check.due("none", Check.wild(x, 0, 4), 0);
        Check.due("one", Check.wild(x, 0, 4, 1, 6), 1);
        int[] most = new int[40];
        for (int i = 0; i < 40; i++) {
            most[i] = i % 2 == 0 ? 1 << i % 4 : 8;
        }
        Check.due("twenty", Check.wild(x, 5, 4, most), 2);
        int[] clauses = {0, 1, 20};
        for (int t = 0; t < 3; t++) {
            Check.due("its clauses", x.taskTold(t, 2), clauses[t]);
            Check.due("nothing hidden", x.taskTold(t, 3), -1);
            Check.due("no clause behind them", x.clauseTold(t, clauses[t], 0), -5);
        }
        Check.due("plain", x.clauseTold(1, 0, 0), 1);
        Check.due("against", x.clauseTold(1, 0, 1), 6);
        Check.due("the last, plain", x.clauseTold(2, 19, 0), 4);
        Check.due("the last, against", x.clauseTold(2, 19, 1), 8);
    }

    private static void wildRefusedAtFirst() {
        Doc.promise(6, "NONE: SHEET; BAD: KIND, letters; -11;");
        HiddenWorks x = new HiddenWorks();
        for (int s = 0; s < 4; s++) {
            Check.due("missing", x.wild(0, 1, s), -11);
            x.sheet(s, s % 3, 0);
            Check.due("sheet " + s, x.wild(0, 1, s), s);
            x.sheet(s, -1, 0);
        }
        for (int s : new int[] {-1, 4, LOW, HIGH}) {
            Check.due("sheet " + s, x.wild(0, 1, s), -1);
        }
        for (int kind : new int[] {-1, 6, LOW, HIGH}) {
            Check.due("kind " + kind + ", ahead of missing", x.wild(kind, 1, 0), -2);
            Check.due("the sheet ahead of it", x.wild(kind, 1, 4), -1);
        }
        for (int n : new int[] {0, 11, LOW, HIGH}) {
            Check.due(n + " letters, ahead of missing", x.wild(0, n, 0), -2);
            Check.due("the sheet ahead of them", x.wild(0, n, 4), -1);
        }
        x.sheet(0, 0, 0);
        Check.due("the last kind", x.wild(5, 10, 0), 4);
    }

    private static void wildRefusedByTheSheet() {
        Doc.promise(6, "BAD: its size is odd, a CLAUSE is not as told;");
        HiddenWorks x = new HiddenWorks();
        for (int n : new int[] {1, 3, 39}) {
            int[] odd = new int[n];
            for (int i = 0; i < n; i++) {
                odd[i] = 1 << i % 2;
            }
            Check.due("size " + n, Check.wild(x, 0, 2, odd), -2);
        }
        int[] whole = new int[40];
        for (int i = 0; i < 40; i++) {
            whole[i] = 1 << i % 2;
        }
        for (int c : new int[] {0, 1, 19}) {
            for (int[] wrong : new int[][] {{0, 0}, {1, 1}, {4, 0}, {0, 4}, {-1, 0}, {0, LOW}, {LOW, 1}, {HIGH, 0}}) {
                int[] spoilt = whole.clone();
                spoilt[2 * c] = wrong[0];
                spoilt[2 * c + 1] = wrong[1];
                x = new HiddenWorks();
                Check.due("clause " + c + ": " + wrong[0] + " " + wrong[1], Check.wild(x, 0, 2, spoilt), -2);
                Check.due("nothing came", x.count(0), 0);
            }
        }
        Check.due("as told", Check.wild(x, 0, 2, whole), 0);
    }

    private static void wildFull() {
        Doc.promise(6, "BAD: its size is odd, a CLAUSE is not as told; FULL.");
        HiddenWorks x = new HiddenWorks();
        for (int t = 0; t < 8; t++) {
            Check.due("a task", Check.wild(x, 0, 2, 1, 2), t);
        }
        Check.due("full", Check.wild(x, 0, 2, 1, 2), -4);
        Check.due("full, none in it", Check.wild(x, 0, 2), -4);
        Check.due("an odd size ahead of it", Check.wild(x, 0, 2, 1), -2);
        Check.due("a clause ahead of it", Check.wild(x, 0, 2, 1, 1), -2);
        Check.due("missing ahead of it", x.wild(0, 2, 0), -11);
        Check.due("the kind ahead of it", x.wild(6, 2, 3), -2);
        Check.due("the sheet ahead of it", x.wild(0, 2, 4), -1);
    }

    private static void taskTold() {
        Doc.promise(7, "Of a TASK what 0 KIND, 1 letters, 2 CLAUSES, 3 HIDDEN (-1: nothing), 4 RECIPE (-1), 5 SEED (-1). "
            + "-5: no such TASK; -7: what.");
        HiddenWorks x = new HiddenWorks();
        Check.due("none", x.taskTold(0, 0), -5);
        Check.recipe(x, "k0 n1 c1 w1 0 1");
        Check.recipe(x, "k5 n2 c24 w1 0 99");
        Check.sheet(x, 0, 0, 1, 0);
        x.make(1, 99999);
        x.wild(3, 2, 0);
        x.twin(0, 0, 3);
        x.twin(1, 0, 3);
        int hidden = x.taskTold(0, 3), swapped = hidden >> 1 | (hidden & 1) << 1;
        Check.due("hidden", hidden >= 0 && hidden < 4);
        int[][] due = {{5, 2, 24, hidden, 1, 99999}, {3, 2, 1, -1, -1, -1}, {5, 2, 24, swapped ^ 3, -1, -1},
            {3, 2, 1, -1, -1, -1}};
        for (int t = 0; t < 4; t++) {
            for (int what = 0; what < 6; what++) {
                Check.due("task " + t + " told " + what, x.taskTold(t, what), due[t][what]);
            }
        }
        for (int wrong : new int[] {-1, 6, LOW, HIGH}) {
            Check.due("what " + wrong, x.taskTold(0, wrong), -7);
        }
        for (int wrong : new int[] {-1, 4, 8, LOW, HIGH}) {
            Check.due("task " + wrong, x.taskTold(wrong, 0), -5);
            Check.due("task " + wrong + ", ahead of what", x.taskTold(wrong, 6), -5);
        }
    }

    private static void clauseTold() {
        Doc.promise(8, "Of a CLAUSE of a TASK what 0 PLAIN, 1 AGAINST. -5: no such TASK, CLAUSE; -7: what.");
        HiddenWorks x = new HiddenWorks();
        Check.due("no task", x.clauseTold(0, 0, 0), -5);
        Check.wild(x, 0, 10, 512, 3, 4, 8);
        int[][] due = {{512, 3}, {4, 8}};
        for (int c = 0; c < 2; c++) {
            Check.due("plain", x.clauseTold(0, c, 0), due[c][0]);
            Check.due("against", x.clauseTold(0, c, 1), due[c][1]);
            for (int wrong : new int[] {-1, 2, LOW, HIGH}) {
                Check.due("what " + wrong, x.clauseTold(0, c, wrong), -7);
            }
        }
        for (int wrong : new int[] {-1, 2, 24, LOW, HIGH}) {
            Check.due("clause " + wrong, x.clauseTold(0, wrong, 0), -5);
            Check.due("clause " + wrong + ", ahead of what", x.clauseTold(0, wrong, 2), -5);
            int t = wrong == 2 ? 1 : wrong;
            Check.due("task " + t, x.clauseTold(t, 0, 1), -5);
            Check.due("task " + t + ", ahead of what", x.clauseTold(t, 0, 2), -5);
        }
    }

    private static void kindTold() {
        Doc.promise(26, "Of a KIND, IS of WIDE: what 0 whether it HOLDS (1, 0), 1 WORTH.");
        HiddenWorks x = new HiddenWorks();
        Check.due("the first of the first", x.kindTold(0, 0, 1, 0), 0);
        Check.due("its worth", x.kindTold(0, 0, 1, 1), 0);
        Check.due("the least worth", x.kindTold(3, 0, 3, 1), -1);
        Check.due("the last of the last", x.kindTold(5, 3, 3, 0), 1);
        Check.due("its worth", x.kindTold(5, 3, 3, 1), 6);
    }

    private static void kindTellsNothing() {
        Doc.promise(26, "BAD: KIND, WIDE (1 .. 3), IS (0 .. WIDE), what.");
        HiddenWorks x = new HiddenWorks();
        for (int wide = 1; wide <= 3; wide++) {
            for (int kind : new int[] {-1, 6, LOW, HIGH}) {
                Check.due("kind " + kind, x.kindTold(kind, 1, wide, 0), -2);
            }
            for (int is : new int[] {-1, wide + 1, LOW, HIGH}) {
                Check.due(is + " of " + wide, x.kindTold(0, is, wide, 0), -2);
                Check.due(is + " of " + wide + ", worth", x.kindTold(5, is, wide, 1), -2);
            }
            Check.due("none of " + wide, x.kindTold(2, 0, wide, 0), 0);
            Check.due("all of " + wide, x.kindTold(5, wide, wide, 0), 1);
            for (int what : new int[] {-1, 2, LOW, HIGH}) {
                Check.due("what " + what, x.kindTold(0, 1, wide, what), -2);
            }
        }
        for (int wide : new int[] {0, 4, -1, LOW, HIGH}) {
            Check.due("none of " + wide, x.kindTold(0, 0, wide, 0), -2);
            Check.due("all of " + wide, x.kindTold(0, wide, wide, 0), -2);
        }
    }
}
