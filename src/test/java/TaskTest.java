/** Promises 5 to 8, and 26: tasks, made and wild, what is told of them, and the kinds. */
final class TaskTest {
    private TaskTest() {
    }

    static void run() {
        makeRefusals();
        madeByHand();
        madeHoldsByHidden();
        wildTasks();
        wildRefusals();
        kinds();
        kindRefusals();
    }

    private static void makeRefusals() {
        HiddenWorks x = new HiddenWorks();
        Check.due("no recipe, ahead of the seed", x.make(0, -1), -1);
        Check.recipe(x, "k0 n4 c3 w2 0 1 2");
        Check.due("seed below", x.make(0, -1), -2);
        Check.due("seed above", x.make(0, 100000), -2);
        Check.due("no task came", x.count(0), 0);
        for (int t = 0; t < 8; t++) {
            Check.due("a task", x.make(0, 99999 - t), t);
        }
        Check.due("seed, ahead of full", x.make(0, -1), -2);
        Check.due("recipe, ahead of full", x.make(1, 0), -1);
        Check.due("full", x.make(0, 0), -4);
        Check.due("eight", x.count(0), 8);
    }

    /** By the draws of the document, reckoned here with numbers of any size. */
    private static void madeByHand() {
        HiddenWorks x = new HiddenWorks();
        Check.recipe(x, "k4 n3 c2 w1 5 0");
        Check.due("made", x.make(0, 41), 0);
        java.math.BigInteger lot = java.math.BigInteger.valueOf(42);
        int[] bounds = {2, 2, 2, 3, 5, 3, 5}, drawn = new int[bounds.length];
        for (int i = 0; i < bounds.length; i++) {
            lot = lot.multiply(java.math.BigInteger.valueOf(48271)).mod(java.math.BigInteger.valueOf(2147483647));
            java.math.BigInteger cut = lot.divide(java.math.BigInteger.valueOf(16));
            drawn[i] = cut.mod(java.math.BigInteger.valueOf(bounds[i])).intValue();
        }
        int hidden = drawn[0] + 2 * drawn[1] + 4 * drawn[2];
        Check.due("hidden", x.taskTold(0, 3), hidden);
        for (int c = 0; c < 2; c++) {
            int letter = 1 << drawn[3 + 2 * c];
            boolean plain = (hidden & letter) == 0;
            Check.due("plain", x.clauseTold(0, c, 0), plain ? letter : 0);
            Check.due("against", x.clauseTold(0, c, 1), plain ? 0 : letter);
        }
    }

    private static void madeHoldsByHidden() {
        HiddenWorks x = new HiddenWorks();
        Check.recipe(x, "k3 n10 c24 w3 0 9 0 0");
        for (int seed = 0; seed < 8; seed++) {
            x.make(0, seed);
            int hidden = x.taskTold(seed, 3);
            Check.due("it solves", x.solves(seed, hidden), -1);
            for (int c = 0; c < 24; c++) {
                int plain = x.clauseTold(seed, c, 0), against = x.clauseTold(seed, c, 1);
                Check.due("wide", Integer.bitCount(plain | against), 3);
                Check.due("not both", plain & against, 0);
                Check.due("one is true", Integer.bitCount(plain & hidden | against & ~hidden), 1);
            }
            int[] told = {3, 10, 24, hidden, 0, seed};
            for (int what = 0; what < 6; what++) {
                Check.due("told " + what, x.taskTold(seed, what), told[what]);
            }
        }
        Check.due("what below", x.taskTold(0, -1), -7);
        Check.due("what above", x.taskTold(0, 6), -7);
        Check.due("task, ahead of what", x.taskTold(8, 6), -5);
        Check.due("task below", x.taskTold(-1, 0), -5);
        Check.due("clause below", x.clauseTold(0, -1, 0), -5);
        Check.due("clause above, ahead of what", x.clauseTold(0, 24, 2), -5);
        Check.due("no task of a clause", x.clauseTold(8, 0, 0), -5);
        Check.due("what of a clause", x.clauseTold(0, 23, 2), -7);
        Check.due("what of a clause below", x.clauseTold(0, 23, -1), -7);
    }

    private static void wildTasks() {
        HiddenWorks x = new HiddenWorks();
        Check.due("wild", Check.wild(x, 2, 10, 512, 3, 0, 1, 7, 0), 0);
        int[] told = {2, 10, 3, -1, -1, -1};
        for (int what = 0; what < 6; what++) {
            Check.due("told " + what, x.taskTold(0, what), told[what]);
        }
        int[] clauses = {512, 3, 0, 1, 7, 0};
        for (int i = 0; i < 6; i++) {
            Check.due("clause", x.clauseTold(0, i / 2, i % 2), clauses[i]);
        }
        Check.due("no clause", x.clauseTold(0, 3, 0), -5);
        int[] twenty = new int[40];
        for (int i = 0; i < 40; i++) {
            twenty[i] = i % 2;
        }
        Check.due("twenty clauses", Check.wild(x, 0, 1, twenty), 1);
        Check.due("they are there", x.taskTold(1, 2), 20);
        Check.due("none", Check.wild(x, 0, 1), 2);
        Check.sheet(x, 0, 0, 4, 65);
        Check.due("of bytes", x.wild(0, 7, 0), 3);
        Check.sheet(x, 0, 0, 128, 1);
        Check.due("a byte's highest bit is its sign", x.wild(0, 10, 0), -2);
        Check.sheet(x, 0, 1, 128, 65536 + 1);
        Check.due("of shorts", x.wild(0, 10, 0), 4);
        Check.due("cut", x.clauseTold(4, 0, 1), 1);
    }

    private static void wildRefusals() {
        HiddenWorks x = new HiddenWorks();
        Check.due("sheet, first", x.wild(6, 11, 4), -1);
        Check.due("sheet below", x.wild(6, 11, -1), -1);
        Check.due("kind, ahead of missing", x.wild(6, 3, 0), -2);
        Check.due("kind below", x.wild(-1, 3, 0), -2);
        Check.due("letters, ahead of missing", x.wild(0, 0, 0), -2);
        Check.due("letters above", x.wild(0, 11, 0), -2);
        Check.due("missing", x.wild(0, 3, 0), -11);
        Check.due("odd", Check.wild(x, 0, 3, 1, 2, 4), -2);
        Check.due("empty clause", Check.wild(x, 0, 3, 1, 2, 0, 0), -2);
        Check.due("in both", Check.wild(x, 0, 3, 1, 3), -2);
        Check.due("four wide", Check.wild(x, 0, 4, 7, 8), -2);
        Check.due("a letter beyond", Check.wild(x, 0, 3, 8, 1), -2);
        Check.due("a letter beyond, against", Check.wild(x, 0, 3, 1, 8), -2);
        Check.due("below 0", Check.wild(x, 0, 3, 1, Integer.MIN_VALUE), -2);
        Check.due("nothing came", x.count(0), 0);
        for (int t = 0; t < 8; t++) {
            Check.due("wild", Check.wild(x, t % 6, 3, 1, 2), t);
        }
        Check.due("a clause, ahead of full", Check.wild(x, 0, 3, 1, 3), -2);
        Check.due("full", Check.wild(x, 0, 3, 1, 2), -4);
    }

    /** By kinds, widths, and how many are true: whether it holds, and its worth. */
    private static void kinds() {
        HiddenWorks x = new HiddenWorks();
        int[][] holds = {{1, 2, 6, 14}, {1, 2, 2, 6}, {1, 2, 2, 10}, {1, 2, 2, 2}, {1, 1, 5, 5}, {1, 2, 4, 12}};
        for (int kind = 0; kind < 6; kind++) {
            for (int wide = 1; wide <= 3; wide++) {
                for (int is = 0; is <= wide; is++) {
                    int due = holds[kind][wide] >> is & 1;
                    int worth = 3 * due + (kind == 5 ? is : 0) - (kind == 3 && is == 0 ? 1 : 0);
                    Check.due("holds " + kind + " " + is + " of " + wide, x.kindTold(kind, is, wide, 0), due);
                    Check.due("worth " + kind + " " + is + " of " + wide, x.kindTold(kind, is, wide, 1), worth);
                }
            }
        }
    }

    private static void kindRefusals() {
        HiddenWorks x = new HiddenWorks();
        int[][] wrong = {{-1, 0, 1, 0}, {6, 0, 1, 0}, {0, -1, 1, 0}, {0, 2, 1, 0}, {0, 0, 0, 0}, {0, 0, 4, 0},
            {0, 4, 4, 0}, {0, 4, 3, 0}, {0, 0, 1, -1}, {0, 0, 1, 2}};
        for (int[] w : wrong) {
            Check.due("kindTold " + w[0] + " " + w[1] + " " + w[2], x.kindTold(w[0], w[1], w[2], w[3]), -2);
        }
    }
}
