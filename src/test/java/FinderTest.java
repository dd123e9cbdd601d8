/** Promises 19 to 21: finders, heaps, whether they can be told apart. */
final class FinderTest {
    private FinderTest() {
    }

    static void run() {
        counts();
        climbs();
        climbsOn();
        searches();
        findsHidden();
        findRefusals();
        heaps();
        heapRefusals();
        aparts();
        apartRefusals();
    }

    private static void found(HiddenWorks x, int finder, int limit, int row, int steps) {
        String call = "finder " + finder + " limit " + limit;
        Check.due(call + " finds", x.find(0, finder, limit, 0), row);
        Check.due(call + " steps", x.find(0, finder, limit, 1), steps);
        Check.due(call + " hidden", x.find(0, finder, limit, 2), 0);
    }

    private static void counts() {
        HiddenWorks x = new HiddenWorks();
        Check.wild(x, 0, 3, 1, 0, 1, 2, 2, 0, 5, 0);
        found(x, 0, 0, -1, 0);
        found(x, 0, 1, -1, 1);
        found(x, 0, 2000, -1, 1);
        x = new HiddenWorks();
        Check.wild(x, 0, 3, 1, 0, 4, 2, 3, 0, 0, 2);
        found(x, 0, 0, -1, 0);
        found(x, 0, 1, 5, 1);
        found(x, 2, 1, 5, 1);
        found(x, 2, 0, -1, 0);
    }

    /** From none: each step turns the letter by which most is won, of like ones the least. */
    private static void climbs() {
        HiddenWorks x = new HiddenWorks();
        Check.wild(x, 0, 4, 1, 0, 2, 0, 6, 0, 8, 0, 10, 0);
        found(x, 1, 0, -1, 0);
        found(x, 1, 1, -1, 1);
        found(x, 1, 3, -1, 3);
        found(x, 1, 4, 11, 4);
        found(x, 1, 2000, 11, 4);
        found(x, 2, 2000, 15, 1);
    }

    /** Where no turn is worth more, the next row is 5 times it, and 3, and the steps. */
    private static void climbsOn() {
        HiddenWorks x = new HiddenWorks();
        Check.wild(x, 0, 2, 1, 2, 2, 1, 3, 0, 0, 1);
        found(x, 1, 2000, -1, 2000);
        found(x, 3, 2000, -1, 5);
        x = new HiddenWorks();
        Check.wild(x, 2, 3, 3, 0, 6, 0, 5, 0, 7, 0);
        found(x, 1, 2000, -1, 2000);
        x = new HiddenWorks();
        Check.wild(x, 2, 3, 3, 4, 1, 0, 0, 2);
        Check.due("a, not b, c: 5", x.answers(0, 0, 0), 1);
        found(x, 1, 2, -1, 2);
        found(x, 1, 3, 5, 3);
    }

    private static void searches() {
        HiddenWorks x = new HiddenWorks();
        Check.wild(x, 0, 3, 1, 0, 6, 0);
        found(x, 3, 0, -1, 0);
        found(x, 3, 1, -1, 1);
        found(x, 3, 5, -1, 5);
        found(x, 3, 6, 5, 6);
        found(x, 3, 2000, 5, 6);
        x = new HiddenWorks();
        Check.wild(x, 0, 10);
        found(x, 3, 10, -1, 10);
        found(x, 3, 11, 0, 11);
        x = new HiddenWorks();
        Check.wild(x, 0, 10, 512, 0, 0, 512);
        found(x, 3, 2000, -1, 2000);
        x = new HiddenWorks();
        Check.wild(x, 0, 1, 1, 0, 0, 1);
        found(x, 3, 2, -1, 2);
        found(x, 3, 3, -1, 3);
        found(x, 3, 4, -1, 3);
    }

    private static void findsHidden() {
        HiddenWorks x = new HiddenWorks();
        Check.recipe(x, "k0 n5 c24 w1 0 1");
        Check.recipe(x, "k0 n5 c0 w1 0 1");
        x.make(0, 3);
        x.make(1, 3);
        int all = x.answers(0, 0, 0), hidden = x.taskTold(0, 3);
        Check.due("the one answer", all, 1);
        for (int finder = 0; finder < 4; finder++) {
            Check.due("it finds", x.find(0, finder, 2000, 0), hidden);
            Check.due("what was hidden", x.find(0, finder, 2000, 2), 1);
            Check.due("not with no steps", x.find(0, finder, 0, 2), 0);
            Check.due("without clauses none", x.find(1, finder, 2000, 0), 0);
            Check.due("is it hidden", x.find(1, finder, 2000, 2), x.taskTold(1, 3) == 0 ? 1 : 0);
        }
    }

    private static void findRefusals() {
        HiddenWorks x = new HiddenWorks();
        Check.due("no task, first", x.find(0, 4, 0, 0), -5);
        Check.wild(x, 0, 1, 1, 0);
        int[][] wrong = {{-1, 0, 0}, {4, 0, 0}, {0, -1, 0}, {0, 2001, 0}, {0, 0, -1}, {0, 0, 3}};
        for (int[] w : wrong) {
            Check.due("find " + w[0] + " " + w[1] + " " + w[2], x.find(0, w[0], w[1], w[2]), -2);
        }
        Check.due("below", x.find(-1, 0, 0, 0), -5);
        Check.due("the greatest limit", x.find(0, 0, 2000, 0), 1);
    }

    /** A heap is as its tasks, made one by one. */
    private static void heaps() {
        HiddenWorks x = new HiddenWorks();
        Check.recipe(x, "k0 n6 c18 w3 0 3 2 1");
        Check.recipe(x, "k0 n3 c24 w1 0 3");
        int[] found = new int[4], hidden = new int[4];
        int single = 0;
        x.image();
        for (int seed = 40; seed < 64; seed++) {
            Check.due("made", x.make(0, seed), 0);
            for (int finder = 0; finder < 4; finder++) {
                found[finder] += x.find(0, finder, 7, 0) >= 0 ? 1 : 0;
                hidden[finder] += x.find(0, finder, 7, 2);
            }
            single += x.answers(0, 0, 0) == 1 ? 1 : 0;
            x.back();
        }
        for (int finder = 0; finder < 4; finder++) {
            Check.due("found " + finder, x.heap(0, 40, 24, finder, 7, 0), found[finder]);
            Check.due("hidden " + finder, x.heap(0, 40, 24, finder, 7, 1), hidden[finder]);
            Check.due("single " + finder, x.heap(0, 40, 24, finder, 0, 2), single);
        }
        Check.due("no task is kept", x.count(0), 0);
        Check.due("all by counts", x.heap(1, 0, 24, 0, 1, 0), 24);
        Check.due("none without a step", x.heap(1, 0, 24, 0, 0, 0), 0);
        Check.due("all but few letters are told", x.heap(1, 0, 24, 0, 1, 2) >= 20);
    }

    private static void heapRefusals() {
        HiddenWorks x = new HiddenWorks();
        Check.due("no recipe, first", x.heap(0, -1, 1, 0, 0, 0), -5);
        Check.recipe(x, "k0 n3 c24 w1 0 3");
        int[][] wrong = {{-1, 1, 0, 0, 0}, {100000, 1, 0, 0, 0}, {99999, 2, 0, 0, 0}, {99977, 24, 0, 0, 0},
            {0, 0, 0, 0, 0}, {0, -1, 0, 0, 0}, {0, 25, 0, 0, 0}, {Integer.MAX_VALUE, 24, 0, 0, 0},
            {0, 1, -1, 0, 0}, {0, 1, 4, 0, 0}, {0, 1, 0, -1, 0}, {0, 1, 0, 201, 0}, {0, 1, 0, 0, -1}, {0, 1, 0, 0, 3}};
        for (int[] w : wrong) {
            Check.due("heap " + w[0] + " " + w[1], x.heap(0, w[0], w[1], w[2], w[3], w[4]), -2);
        }
        Check.due("the last seed", x.heap(0, 99999, 1, 0, 200, 0), 1);
        Check.due("the last seeds", x.heap(0, 99976, 24, 0, 200, 0), 24);
        Check.due("below", x.heap(-1, 0, 1, 0, 0, 0), -5);
    }

    private static int sign(HiddenWorks x, int recipe, int seed) {
        x.make(recipe, seed);
        int sign = 0;
        for (int l = 0; l < x.taskTold(0, 1); l++) {
            sign += x.lean(0, l) * x.lean(0, l);
        }
        x.back();
        return sign;
    }

    /** The best bound, found among all numbers that a sign can be. */
    private static void aparts() {
        HiddenWorks x = new HiddenWorks();
        Check.recipe(x, "k0 n5 c12 w2 0 1 4");
        Check.recipe(x, "k0 n5 c12 w2 0 4 1");
        Check.recipe(x, "k0 n5 c0 w2 0 4 1");
        x.image();
        for (int a = 0; a < 3; a++) {
            for (int b = 0; b < 3; b++) {
                int n = 7 + a + 3 * b, seed = 100 * a + b, bound = -1, most = -1;
                int[] first = new int[n], second = new int[n];
                for (int i = 0; i < n; i++) {
                    first[i] = sign(x, a, seed + i);
                    second[i] = sign(x, b, seed + i);
                }
                for (int by = -1; by < 2000; by++) {
                    int right = 0;
                    for (int i = 0; i < n; i++) {
                        right += (first[i] > by ? 1 : 0) + (second[i] > by ? 0 : 1);
                    }
                    if (right > most) {
                        bound = by;
                        most = right;
                    }
                }
                Check.due("bound " + a + " " + b, x.apart(a, b, seed, n, 0), bound);
                Check.due("right " + a + " " + b, x.apart(a, b, seed, n, 1), most);
            }
        }
        Check.due("like ones: all are the first one's", x.apart(0, 0, 5, 24, 0) >= -1);
        Check.due("no clauses: by 0 all are right", x.apart(0, 2, 5, 24, 1), 48);
        Check.due("no clauses at all: -1", x.apart(2, 2, 5, 24, 0), -1);
        Check.due("half are right", x.apart(2, 2, 5, 24, 1), 24);
    }

    private static void apartRefusals() {
        HiddenWorks x = new HiddenWorks();
        Check.due("no recipes", x.apart(0, 0, -1, 1, 0), -5);
        Check.recipe(x, "k0 n3 c24 w1 0 3");
        Check.due("no second one", x.apart(0, 1, 0, 1, 0), -5);
        Check.due("no first one", x.apart(-1, 0, 0, 1, 0), -5);
        int[][] wrong = {{-1, 1, 0}, {100000, 1, 0}, {99999, 2, 0}, {0, 0, 0}, {0, 25, 0}, {0, 1, -1}, {0, 1, 2}};
        for (int[] w : wrong) {
            Check.due("apart " + w[0] + " " + w[1] + " " + w[2], x.apart(0, 0, w[0], w[1], w[2]), -2);
        }
        Check.due("the last seed", x.apart(0, 0, 99999, 1, 1), 1);
    }
}
