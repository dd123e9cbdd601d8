/** Promises 1 to 4, and 27: a new object, the tape, its recipes, how many there are. */
final class RecipeTest {
    private RecipeTest() {
    }

    static void run() {
        newObject();
        feeding();
        faults();
        faultsOfWeights();
        emptyAndFull();
        told();
    }

    private static void newObject() {
        HiddenWorks x = new HiddenWorks();
        for (int what = 0; what <= 3; what++) {
            Check.due("count " + what, x.count(what), 0);
        }
        Check.due("count -1", x.count(-1), -2);
        Check.due("count 4", x.count(4), -2);
        Check.due("no recipe", x.recipeTold(0, 0), -5);
        Check.due("no task", x.taskTold(0, 0), -5);
        Check.due("no claim", x.claimTold(0, 0), -5);
        Check.due("no image", x.back(), -3);
        for (int s = 0; s < 4; s++) {
            Check.due("no sheet", x.cell(s, 0, 0), -11);
        }
    }

    private static void feeding() {
        HiddenWorks x = new HiddenWorks();
        Check.due("n 0", x.feed(1, 0), -2);
        Check.due("n -1", x.feed(1, -1), -2);
        Check.due("n 9", x.feed(1, 9), -2);
        Check.due("nothing came", x.count(3), 0);
        Check.due("the lowest, the highest first", x.feed(0x5A5A006B30206E31L, 5), 5);
        Check.due("one more", x.feed(' ', 1), 6);
        Check.due("all eight", x.feed(Check.packed("c0 w1 0 "), 8), 14);
        Check.due("the last", x.feed(0xFFFFFFFFFFFFFF37L, 1), 15);
        Check.due("they are a recipe", x.recipe(), 0);
        Check.due("its weight", x.recipeTold(0, 5), 7);
        for (int i = 1; i <= 9; i++) {
            Check.due("eight more", x.feed(-1L, 8), 8 * i);
        }
        Check.due("seven more", x.feed(-1L, 7), 79);
        Check.due("two are too many", x.feed(-1L, 2), -4);
        Check.due("BAD is told ahead of FULL", x.feed(-1L, 9), -2);
        Check.due("FULL changes nothing", x.count(3), 79);
        Check.due("the last one", x.feed(-1L, 1), 80);
        Check.due("full", x.feed(-1L, 1), -4);
        Check.due("a fault at 0", x.recipe(), -100);
        Check.due("empty then", x.count(3), 0);
    }

    private static void fault(String text, int place) {
        HiddenWorks x = new HiddenWorks();
        Check.due("fault of '" + text + "'", Check.recipe(x, text), -100 - place);
        Check.due("the tape is empty by a fault, too", x.count(3), 0);
        Check.due("no recipe came", x.count(1), 0);
    }

    private static void faults() {
        fault("", 0);
        fault(" k0", 0);
        fault("K0", 0);
        fault("n4 k0", 0);
        fault("k", 1);
        fault("k 0", 1);
        fault("kx", 1);
        fault("k-1", 1);
        fault("k6", 1);
        fault("k06 n4", 1);
        fault("k12 n4", 1);
        fault("k0", 2);
        fault("k0n4", 2);
        fault("k05", 1 + 2);
        fault("k005", 3);
        fault("k0\tn4", 2);
        fault("k0   ", 5);
        fault("k0   m4", 5);
        fault("k0 n", 4);
        fault("k0 n0 c1", 4);
        fault("k0 n00 c1", 4);
        fault("k0 n11", 4);
        fault("k0 n100 c1", 6);
        fault("k0 n123 c1", 4);
        fault("k0 n10c1", 6);
        fault("k0 n4 c25", 7);
        fault("k0 n4 c240", 9);
        fault("k0 n4 c24 w0 1", 11);
        fault("k0 n4 c24 w4 1", 11);
        fault("k0 n2 c24 w3 1", 11);
        fault("k0 n1 c24 w2 1", 11);
        fault("k0 n4 c24 w03", 13);
        fault("k0 n4 c24 w03 ", 14);
        fault("k0 n4 c24 w03x", 13);
    }

    private static void faultsOfWeights() {
        fault("k0 n4 c9 w2 0 1", 15);
        fault("k0 n4 c9 w2 0 1 ", 16);
        fault("k0 n4 c9 w2 0  1 2 ", 18);
        fault("k0 n4 c9 w2 0 1 2 3", 17);
        fault("k0 n4 c9 w2 0 1 2x", 17);
        fault("k0 n4 c9 w2 0 1x2", 15);
        fault("k0 n4 c9 w2 0 100 1", 16);
        fault("k0 n4 c9 w2 0 1 100", 18);
        fault("k0 n4 c9 w2 1 1 1", 12);
        fault("k0 n4 c9 w2 01 1 1", 12);
        fault("k1 n4 c9 w2 0 1 1", 16);
        fault("k1 n4 c9 w2 0 1 25", 16);
        fault("k2 n4 c9 w2 0 1 1", 16);
        fault("k3 n4 c9 w3 0 1 1 0", 16);
        fault("k4 n4 c9 w3 1 1 1 0", 14);
        fault("k5 n4 c9 w3 0 1 1 0", 14);
        fault("k0 n4 c9 w2 0 0 0", 17);
        fault("k0 n4 c9 w2 0 00 00", 19);
        fault("k0 n4 c9 w2 0 0 0 ", 17);
        fault("k5 n4 c9 w2 0 1 1", 14);
        whole("k00 n04 c00 w01 00 01");
        whole("k1 n1 c24 w1 0 99");
        whole("k1 n4 c9  w2   0 1 0");
        whole("k2 n10 c9 w3 0 1 0 2");
        whole("k3 n4 c9 w3 0 1 0 0");
        whole("k4 n4 c9 w3 1 0 1 0");
        whole("k5 n4 c9 w2 0 0 9");
        whole("k5 n4 c9 w3 0 0 9 1");
    }

    private static void whole(String text) {
        HiddenWorks x = new HiddenWorks();
        Check.due("whole '" + text + "'", Check.recipe(x, text), 0);
        Check.due("the tape is empty", x.count(3), 0);
        Check.due("one recipe", x.count(1), 1);
    }

    private static void emptyAndFull() {
        HiddenWorks x = new HiddenWorks();
        for (int r = 0; r < 6; r++) {
            Check.due("a recipe", Check.recipe(x, "k0 n4 c9 w2 0 1 2"), r);
        }
        Check.due("FULL ahead of the fault", Check.recipe(x, "nonsense"), -4);
        Check.due("the tape stays", x.count(3), 8);
        Check.due("still full", x.recipe(), -4);
        Check.due("six", x.count(1), 6);
    }

    private static void told() {
        HiddenWorks x = new HiddenWorks();
        Check.recipe(x, "k5 n10 c24 w3 0 0 98 7");
        Check.recipe(x, "k4 n9 c0 w1 5 0");
        int[] first = {5, 10, 24, 3, 0, 0, 98, 7}, second = {4, 9, 0, 1, 5, 0};
        for (int what = 0; what < first.length; what++) {
            Check.due("first " + what, x.recipeTold(0, what), first[what]);
        }
        for (int what = 0; what < second.length; what++) {
            Check.due("second " + what, x.recipeTold(1, what), second[what]);
        }
        Check.due("weights beyond", x.recipeTold(0, 8), -7);
        Check.due("weights beyond the width", x.recipeTold(1, 6), -7);
        Check.due("what below", x.recipeTold(1, -1), -7);
        Check.due("what far below", x.recipeTold(1, Integer.MIN_VALUE), -7);
        Check.due("what far above", x.recipeTold(1, Integer.MAX_VALUE), -7);
        Check.due("no such recipe, ahead of what", x.recipeTold(2, 99), -5);
        Check.due("below", x.recipeTold(-1, 0), -5);
    }
}
