/** The edges of finders, heaps, and whether heaps can be told apart: of the terms' third part, promises 19 to 21. */
final class FinderEdges {
    private static final int LOW = Integer.MIN_VALUE, HIGH = Integer.MAX_VALUE;

    private FinderEdges() {
    }

    static void run() {
        countsByTheLimit();
        moreOftenPlain();
        climbsFromItsRow();
        climbsToTheGreatest();
        climbsOnlyToMore();
        climbsOnByTheSteps();
        searchesPlaces();
        searchGoesBack();
        searchesAll();
        beyondTheLimit();
        findTells();
        findRefused();
        heapOfSeeds();
        heapOneBehindTheOther();
        heapTells();
        heapRefused();
        signs();
        bounds();
        boundsOfLikeOnes();
        boundsOfMany();
        apartTells();
        apartRefused();
    }

    /** On a new wild task: what a finder finds in how many steps; by one less nothing, by many more the same. */
    private static void finds(int finder, int row, int steps, int kind, int letters, int... cells) {
        HiddenWorks x = new HiddenWorks();
        Check.due("a task", Check.wild(x, kind, letters, cells), 0);
        for (int limit : new int[] {steps, steps + 1, 2000}) {
            Check.due("finds by " + limit, x.find(0, finder, limit, 0), row);
            Check.due("steps by " + limit, x.find(0, finder, limit, 1), steps);
        }
        for (int limit : new int[] {0, steps - 1}) {
            Check.due("finds by " + limit, x.find(0, finder, limit, 0), -1);
            Check.due("steps by " + limit, x.find(0, finder, limit, 1), limit);
        }
    }

    /** On a new wild task: a finder finds nothing, and ends after so many steps. */
    private static void findsNothing(int finder, int most, int kind, int letters, int... cells) {
        HiddenWorks x = new HiddenWorks();
        Check.due("a task", Check.wild(x, kind, letters, cells), 0);
        for (int limit : new int[] {0, 1, 2, most - 1, most, most + 1, 2000}) {
            if (limit <= 2000) {
                Check.due("finds by " + limit, x.find(0, finder, limit, 0), -1);
                Check.due("steps by " + limit, x.find(0, finder, limit, 1), Math.min(limit, most));
            }
        }
    }

    private static void countsByTheLimit() {
        Doc.term("FINDERS, with a limit of steps: to ask whether a row SOLVES is a step.");
        finds(0, 0, 1, 0, 1);
        finds(0, 0, 1, 0, 10);
        finds(1, 0, 1, 0, 10);
        finds(2, 0, 1, 0, 10);
        findsNothing(0, 1, 0, 1, 1, 0, 0, 1);
        findsNothing(1, 2000, 0, 1, 1, 0, 0, 1);
        findsNothing(2, 2000, 0, 1, 1, 0, 0, 1);
    }

    private static void moreOftenPlain() {
        Doc.term("0 COUNTS: the row in which those letters are true that stand more often PLAIN than AGAINST (if the limit is 1 "
            + "or more).");
        finds(0, 512 | 1, 1, 0, 10, 512, 0, 1, 0);
        finds(0, 512, 1, 0, 10, 512, 256, 512 | 256, 0);
        finds(0, 2, 1, 0, 2, 2, 1, 3, 0);
        finds(0, 0, 1, 0, 2, 0, 1, 0, 1, 1, 2);
        finds(0, 3, 1, 0, 2, 1, 0, 1, 0, 2, 1);
        finds(0, 0, 1, 0, 2, 2, 1, 1, 2);
        findsNothing(0, 1, 0, 2, 1, 2, 2, 1, 3, 0, 0, 1);
        finds(0, 1, 1, 0, 1, 1, 0);
        finds(0, 0, 1, 0, 1, 0, 1);
    }

    private static void climbsFromItsRow() {
        Doc.term("1 CLIMB from the row of none, 2 CLIMB from that of COUNTS: a row is asked;");
        finds(1, 1, 2, 0, 1, 1, 0);
        finds(2, 1, 1, 0, 1, 1, 0);
        finds(1, 3, 3, 0, 2, 1, 0, 2, 0);
        finds(2, 3, 1, 0, 2, 1, 0, 2, 0);
        finds(2, 0, 2, 4, 1, 1, 0);
        finds(1, 0, 1, 4, 1, 1, 0);
    }

    private static void climbsToTheGreatest() {
        Doc.term("if it doesn't SOLVE, the next one: that with the one letter turned by which the WORTH of all CLAUSES together "
            + "is greatest (of like ones the least letter),");
        finds(1, 1, 2, 0, 2, 3, 0);
        finds(1, 1, 2, 0, 10, 512 | 1, 0);
        finds(1, 2, 2, 0, 2, 3, 0, 2, 0);
        finds(1, 512, 2, 0, 10, 512 | 1, 0, 512, 0);
        finds(1, 1, 2, 4, 2, 1, 2);
        finds(1, 3, 3, 5, 2, 3, 0);
        finds(1, 3, 3, 3, 2, 1, 2, 1, 0);
        finds(1, 1023, 11, 0, 10, 1, 0, 2, 0, 4, 0, 8, 0, 16, 0, 32, 0, 64, 0, 128, 0, 256, 0, 512, 0);
    }

    /** Turning either letter of row 0 is worth as much; so row 4 modulo 4 is 0, then 5 modulo 4 is 1, which is by 3. */
    private static void climbsOnlyToMore() {
        Doc.term("if that is more than it is;");
        finds(1, 3, 4, 0, 2, 2, 1, 1, 0);
        finds(1, 5, 3, 3, 3, 0, 7);
        findsNothing(1, 2000, 0, 2, 1, 0, 0, 1, 2, 0, 0, 2);
        findsNothing(2, 2000, 4, 2, 1, 2, 3, 0, 1, 0, 0, 2);
    }

    private static void climbsOnByTheSteps() {
        Doc.term("else row 5 times the number of the row, and 3, and steps so far, modulo 2 to the n.");
        // 0, 0 + 3 + 1, 20 + 3 + 2 is 9, 45 + 3 + 3 is 3 modulo 16.
        finds(1, 3, 4, 2, 4, 9, 0, 3, 8);
        // 4, 20 + 3 + 1 is 0 modulo 8, 0 + 3 + 2, and from there the second letter.
        finds(2, 7, 4, 0, 3, 1, 2, 2, 0, 4, 3);
        // 513, 2565 + 3 + 1 is 521, 2605 + 3 + 2 is 562 modulo 1024.
        finds(2, 562, 3, 3, 10, 512, 0, 1, 36);
    }

    private static void searchesPlaces() {
        Doc.term("3 SEARCH: letter by letter, false first: each place (with the first l letters told; the first place with none) "
            + "is a step;");
        for (int n = 1; n <= 10; n++) {
            finds(3, 0, n + 1, 0, n);
        }
        finds(3, 1, 3, 0, 1, 1, 0);
        finds(3, 1, 5, 0, 3, 1, 0);
        finds(3, 4, 5, 0, 3, 4, 0);
        finds(3, 1023, 21, 0, 10, 1, 0, 2, 0, 4, 0, 8, 0, 16, 0, 32, 0, 64, 0, 128, 0, 256, 0, 512, 0);
        finds(3, 0, 11, 4, 10, 7, 0, 512 | 256, 0);
    }

    private static void searchGoesBack() {
        Doc.term("it goes back, if a CLAUSE whose letters are all told doesn't HOLD;");
        finds(3, 2, 5, 0, 3, 3, 0);
        finds(3, 4, 5, 0, 3, 5, 0);
        finds(3, 1, 6, 0, 2, 3, 0, 1, 2);
        // None, a false, a; b false, c false, c; b, c false, c.
        finds(3, 7, 9, 0, 3, 4, 1, 2, 4, 1, 0);
        // All places with the first letter false but the first one, then 10 more.
        finds(3, 1, 1034, 0, 10, 513, 0, 1, 512);
        findsNothing(3, 3, 0, 1, 1, 0, 0, 1);
        findsNothing(3, 3, 0, 10, 1, 0, 0, 1);
    }

    private static void searchesAll() {
        Doc.term("with all told it is found.");
        for (int n = 1; n <= 10; n++) {
            int last = 1 << n - 1, all = 2 * (1 << n) - 1;
            findsNothing(3, all, 0, n, last, 0, 0, last);
        }
        finds(3, 0, 2, 0, 1, 0, 1);
        finds(3, 512, 12, 0, 10, 512, 0);
    }

    private static void beyondTheLimit() {
        Doc.term("(Beyond the limit nothing is found.)");
        HiddenWorks x = new HiddenWorks();
        Check.wild(x, 0, 2, 1, 0, 2, 0);
        int[] steps = {1, 3, 1, 5};
        for (int finder = 0; finder < 4; finder++) {
            Check.due("finder " + finder + " by its steps", x.find(0, finder, steps[finder], 0), 3);
            Check.due("finder " + finder + " by one less", x.find(0, finder, steps[finder] - 1, 0), -1);
            Check.due("finder " + finder + " by none", x.find(0, finder, 0, 0), -1);
            Check.due("finder " + finder + ", no steps", x.find(0, finder, 0, 1), 0);
        }
    }

    private static void findTells() {
        Doc.promise(19, "A FINDER (0 .. 3) on a TASK, with a limit (0 .. 2000): what 0 what it finds (-1), 1 its steps (the "
            + "limit at most), 2 whether it found what was HIDDEN (1, 0).");
        boolean[] seen = new boolean[2];
        for (int seed = 0; seed < 6; seed++) {
            HiddenWorks x = new HiddenWorks();
            Check.recipe(x, "k0 n1 c1 w1 0 1");
            Check.recipe(x, "k0 n1 c0 w1 0 1");
            x.make(0, seed);
            x.make(1, seed);
            int hidden = x.taskTold(0, 3);
            seen[hidden] = true;
            for (int finder = 0; finder < 4; finder++) {
                Check.due("it finds what was hidden", x.find(0, finder, 2000, 0), hidden);
                Check.due("so it tells", x.find(0, finder, 2000, 2), 1);
                Check.due("not by no steps", x.find(0, finder, 0, 2), 0);
                Check.due("it finds row 0", x.find(1, finder, 2000, 0), 0);
                Check.due("whether that was hidden", x.find(1, finder, 2000, 2), 1 - hidden);
            }
        }
        Check.due("both were hidden", seen[0] && seen[1]);
        HiddenWorks most = recipes("k0 n2 c24 w1 0 1");
        for (int seed = 0; seed < 8; seed++) {
            most.make(0, seed);
            for (int finder = 0; finder < 4; finder++) {
                Check.due("of 24 clauses, too", most.find(seed, finder, 2000, 2), 1);
            }
        }
        HiddenWorks x = new HiddenWorks();
        Check.wild(x, 0, 1);
        Check.wild(x, 0, 1, 1, 0, 0, 1);
        Check.due("found, but nothing was hidden", x.find(0, 0, 1, 2), 0);
        Check.due("nothing was hidden, and nothing found", x.find(1, 3, 2000, 2), 0);
    }

    private static void findRefused() {
        Doc.promise(19, "-5: TASK; BAD.");
        HiddenWorks x = new HiddenWorks();
        Check.due("no task at all", x.find(0, 0, 0, 0), -5);
        Check.wild(x, 0, 1, 1, 0);
        Check.due("the first of all", x.find(0, 0, 0, 0), -1);
        Check.due("the last of all", x.find(0, 3, 2000, 2), 0);
        for (int wrong : new int[] {-1, 4, LOW, HIGH}) {
            Check.due("finder " + wrong, x.find(0, wrong, 1, 0), -2);
            Check.due("the task ahead", x.find(1, wrong, 1, 0), -5);
        }
        for (int wrong : new int[] {-1, 2001, LOW, HIGH}) {
            Check.due("limit " + wrong, x.find(0, 0, wrong, 0), -2);
            Check.due("the task ahead", x.find(1, 0, wrong, 0), -5);
        }
        for (int wrong : new int[] {-1, 3, LOW, HIGH}) {
            Check.due("what " + wrong, x.find(0, 0, 1, wrong), -2);
            Check.due("the task ahead", x.find(1, 0, 1, wrong), -5);
        }
        for (int t : new int[] {-1, 1, 8, LOW, HIGH}) {
            Check.due("task " + t, x.find(t, 0, 1, 0), -5);
        }
    }

    private static HiddenWorks recipes(String... texts) {
        HiddenWorks x = new HiddenWorks();
        for (int r = 0; r < texts.length; r++) {
            Check.due(texts[r], Check.recipe(x, texts[r]), r);
        }
        return x;
    }

    private static void heapOfSeeds() {
        Doc.term("A HEAP by a RECIPE: TASKS by n SEEDS (1 .. 24)");
        HiddenWorks x = recipes("k0 n1 c1 w1 0 1");
        for (int n = 1; n <= 24; n++) {
            Check.due(n + " seeds", x.heap(0, 7, n, 0, 1, 0), n);
        }
        for (int n : new int[] {0, 25, -1, LOW, HIGH}) {
            Check.due(n + " seeds", x.heap(0, 7, n, 0, 1, 0), -2);
        }
    }

    /** What is hidden of one letter, for seeds so low that nothing is taken away by the modulo. */
    private static int hiddenOfOne(int seed) {
        return (seed + 1) * 48271 / 16 % 2;
    }

    private static void heapOneBehindTheOther() {
        Doc.term("A HEAP by a RECIPE: TASKS by n SEEDS (1 .. 24), one behind the other.");
        HiddenWorks x = recipes("k0 n1 c0 w1 0 1");
        for (int from : new int[] {0, 1, 500}) {
            int due = 0;
            for (int n = 1; n <= 24; n++) {
                due += 1 - hiddenOfOne(from + n - 1);
                Check.due(n + " seeds from " + from, x.heap(0, from, n, 0, 1, 1), due);
            }
            Check.due("not all, not none", due > 0 && due < 24);
        }
    }

    private static void heapTells() {
        Doc.promise(20, "A HEAP from a SEED on (SEED and n 100000 at most), a FINDER with a limit (0 .. 200) on each: what 0 how "
            + "many are found, 1 how many as they were HIDDEN; 2 how many have just one ANSWER.");
        HiddenWorks x = recipes("k0 n1 c1 w1 0 1", "k0 n10 c0 w1 0 1", "k4 n2 c1 w2 1 0 0", "k4 n1 c24 w1 1 0");
        Check.due("the last seed", x.heap(0, 99999, 1, 0, 1, 0), 1);
        Check.due("one behind it", x.heap(0, 99999, 2, 0, 1, 0), -2);
        Check.due("the last 24", x.heap(0, 99976, 24, 0, 1, 0), 24);
        Check.due("one behind them", x.heap(0, 99977, 24, 0, 1, 0), -2);
        Check.due("a seed behind the last", x.heap(0, 100000, 1, 0, 1, 0), -2);
        for (int finder = 0; finder < 4; finder++) {
            Check.due("found by none", x.heap(0, 0, 24, finder, 0, 0), 0);
            Check.due("hidden by none", x.heap(0, 0, 24, finder, 0, 1), 0);
            Check.due("found by the most", x.heap(0, 0, 24, finder, 200, 0), 24);
            Check.due("hidden by the most", x.heap(0, 0, 24, finder, 200, 1), 24);
        }
        Check.due("a step too few", x.heap(1, 0, 24, 3, 10, 0), 0);
        Check.due("as many as it needs", x.heap(1, 0, 24, 3, 11, 0), 24);
        int[] single = {24, 0, 0, 24};
        for (int r = 0; r < 4; r++) {
            Check.due("just one answer", x.heap(r, 0, 24, 0, 0, 2), single[r]);
            Check.due("by the last finder, too", x.heap(r, 0, 24, 3, 200, 2), single[r]);
        }
        Check.due("no task is kept", x.count(0), 0);
        for (int t = 0; t < 8; t++) {
            x.make(0, t);
        }
        Check.due("beside eight tasks", x.heap(0, 0, 24, 0, 1, 0), 24);
    }

    private static void heapRefused() {
        Doc.promise(20, "-5: RECIPE; BAD.");
        Check.due("no recipe at all", new HiddenWorks().heap(0, 0, 1, 0, 0, 0), -5);
        HiddenWorks x = recipes("k0 n1 c1 w1 0 1");
        int[][] wrong = {{-1, 1, 0, 0, 0}, {100000, 1, 0, 0, 0}, {LOW, 1, 0, 0, 0}, {HIGH, 1, 0, 0, 0}, {HIGH, 24, 0, 0, 0},
            {0, 0, 0, 0, 0}, {0, 25, 0, 0, 0}, {0, LOW, 0, 0, 0}, {0, HIGH, 0, 0, 0}, {99999, HIGH, 0, 0, 0},
            {0, 1, -1, 0, 0}, {0, 1, 4, 0, 0}, {0, 1, -1, 0, 2}, {0, 1, 4, 0, 2}, {0, 1, 0, -1, 0}, {0, 1, 0, 201, 0},
            {0, 1, 0, -1, 2}, {0, 1, 0, 201, 2}, {0, 1, 0, HIGH, 0}, {0, 1, 0, 0, -1}, {0, 1, 0, 0, 3}, {0, 1, 0, 0, LOW}};
        for (int[] w : wrong) {
            String call = "seed " + w[0] + ", n " + w[1] + ", finder " + w[2] + ", limit " + w[3] + ", what " + w[4];
            Check.due(call, x.heap(0, w[0], w[1], w[2], w[3], w[4]), -2);
            Check.due(call + ", the recipe ahead", x.heap(1, w[0], w[1], w[2], w[3], w[4]), -5);
        }
        for (int r : new int[] {-1, 1, 6, LOW, HIGH}) {
            Check.due("recipe " + r, x.heap(r, 0, 1, 0, 0, 0), -5);
        }
    }

    /** Told apart from signs that are all greater, a recipe's one sign is the bound. */
    private static void signs() {
        Doc.term("APART: two HEAPS by two RECIPES, the same SEEDS; SIGN of a TASK: of all letters the square of how much more "
            + "often it stands PLAIN than AGAINST, together.");
        HiddenWorks x = recipes("k0 n1 c24 w1 0 1", "k0 n1 c0 w1 0 1", "k0 n10 c1 w3 0 0 0 1", "k4 n10 c1 w2 1 0 0",
            "k4 n1 c5 w1 1 0", "k0 n2 c4 w2 0 0 1");
        int[] sign = {576, 0, 3, 2, 25, 32};
        for (int r = 1; r < 6; r++) {
            Check.due("sign of " + r, x.apart(0, r, 11, 24, 0), sign[r]);
            Check.due("all are right", x.apart(0, r, 11, 24, 1), 48);
        }
        HiddenWorks y = recipes("k0 n3 c4 w2 0 1 1");
        Check.due("the same seeds, the same signs: the least bound", y.apart(0, 0, 0, 24, 0), -1);
        Check.due("half of them are right", y.apart(0, 0, 0, 24, 1), 24);
    }

    private static void bounds() {
        Doc.term("By a BOUND those above it are taken for the first one's, the others for the second one's: of BOUNDS -1 and all "
            + "SIGNS the one by which most are right;");
        HiddenWorks x = recipes("k0 n1 c3 w1 0 1", "k0 n1 c2 w1 0 1", "k0 n1 c0 w1 0 1");
        int[][] bound = {{-1, 4, 0}, {-1, -1, 0}, {-1, -1, -1}};
        for (int n : new int[] {1, 2, 24}) {
            for (int a = 0; a < 3; a++) {
                for (int b = 0; b < 3; b++) {
                    Check.due("bound " + a + " " + b, x.apart(a, b, 3, n, 0), bound[a][b]);
                    Check.due("right " + a + " " + b, x.apart(a, b, 3, n, 1), a < b ? 2 * n : n);
                }
            }
        }
    }

    /** The first one's signs are 2 or 4, by whether two clauses of one letter have the same; the second one's are 3. */
    private static void boundsOfLikeOnes() {
        Doc.term("of like ones the least.");
        HiddenWorks x = recipes("k0 n2 c2 w1 0 1", "k0 n10 c1 w3 0 0 0 1", "k0 n1 c0 w1 0 1");
        boolean[] seen = new boolean[5];
        for (int seed = 0; seed < 12; seed++) {
            int second = x.apart(0, 1, seed, 1, 0);
            int sign = second == -1 ? 2 : 4;
            seen[sign] = true;
            Check.due("2 and 3: by -1 and by 3 one is right; 4 and 3: by 3 both are", second, sign == 2 ? -1 : 3);
            Check.due("so many are right", x.apart(0, 1, seed, 1, 1), sign / 2);
            Check.due("3 and 2: by 2 both are; 3 and 4: by -1 and by 4 one is", x.apart(1, 0, seed, 1, 0), sign == 2 ? 2 : -1);
            Check.due("above 0", x.apart(0, 2, seed, 1, 0), 0);
        }
        Check.due("both signs came", seen[2] && seen[4]);
    }

    /** The square sums of a heap, made and brought back one by one. */
    private static int[] signsOf(HiddenWorks x, int recipe, int seed, int n) {
        int[] signs = new int[n];
        for (int i = 0; i < n; i++) {
            x.make(recipe, seed + i);
            signs[i] = x.lean(0, 0) * x.lean(0, 0) + x.lean(0, 1) * x.lean(0, 1);
            x.back();
        }
        return signs;
    }

    private static void boundsOfMany() {
        Doc.term("of BOUNDS -1 and all SIGNS the one by which most are right; of like ones the least.");
        HiddenWorks all = recipes("k0 n1 c24 w1 0 1", "k0 n2 c2 w1 0 1");
        for (int seed = 0; seed < 20; seed++) {
            Check.due("a sign of 4 comes sooner or later", all.apart(0, 1, seed, 24, 0), 4);
            Check.due("by it all are right", all.apart(0, 1, seed, 24, 1), 48);
        }
        for (int seed = 0; seed < 60; seed++) {
            HiddenWorks x = recipes("k0 n2 c9 w1 0 1", "k0 n2 c8 w1 0 1");
            x.image();
            int n = 1 + seed % 24, bound = -1, most = -1;
            int[] first = signsOf(x, 0, seed, n), second = signsOf(x, 1, seed, n);
            for (int by = -1; by <= 81; by++) {
                int right = 0;
                for (int i = 0; i < n; i++) {
                    right += (first[i] > by ? 1 : 0) + (second[i] <= by ? 1 : 0);
                }
                bound = right > most ? by : bound;
                most = Math.max(most, right);
            }
            Check.due("bound of " + n + " from " + seed, x.apart(0, 1, seed, n, 0), bound);
            Check.due("right of " + n + " from " + seed, x.apart(0, 1, seed, n, 1), most);
        }
    }

    private static void apartTells() {
        Doc.promise(21, "APART, n TASKS each: what 0 the BOUND, 1 how many are right.");
        HiddenWorks x = recipes("k0 n1 c3 w1 0 1", "k0 n1 c2 w1 0 1");
        for (int n = 1; n <= 24; n++) {
            Check.due("bound of " + n, x.apart(0, 1, 0, n, 0), 4);
            Check.due("right of " + n, x.apart(0, 1, 0, n, 1), 2 * n);
        }
        Check.due("the last seed", x.apart(0, 1, 99999, 1, 1), 2);
        Check.due("the last 24", x.apart(0, 1, 99976, 24, 1), 48);
        Check.due("no task is kept", x.count(0), 0);
    }

    private static void apartRefused() {
        Doc.promise(21, "-5: RECIPES; BAD: SEED, n (as of heap()), what.");
        Check.due("no recipe at all", new HiddenWorks().apart(0, 0, 0, 1, 0), -5);
        HiddenWorks x = recipes("k0 n1 c3 w1 0 1");
        int[][] wrong = {{-1, 1, 0}, {100000, 1, 0}, {LOW, 1, 0}, {HIGH, 1, 0}, {HIGH, 24, 0}, {99999, 2, 0}, {99977, 24, 0},
            {0, 0, 0}, {0, -1, 0}, {0, 25, 0}, {0, LOW, 0}, {0, HIGH, 0}, {0, 1, -1}, {0, 1, 2}, {0, 1, LOW}, {0, 1, HIGH}};
        for (int[] w : wrong) {
            String call = "seed " + w[0] + ", n " + w[1] + ", what " + w[2];
            Check.due(call, x.apart(0, 0, w[0], w[1], w[2]), -2);
            Check.due(call + ", the first recipe ahead", x.apart(1, 0, w[0], w[1], w[2]), -5);
            Check.due(call + ", the second ahead", x.apart(0, 1, w[0], w[1], w[2]), -5);
        }
        for (int r : new int[] {-1, 1, 6, LOW, HIGH}) {
            Check.due("first recipe " + r, x.apart(r, 0, 0, 1, 0), -5);
            Check.due("second recipe " + r, x.apart(0, r, 0, 1, 0), -5);
        }
    }
}
