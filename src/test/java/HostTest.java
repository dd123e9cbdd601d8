/** Promises 30 to 34: sheets, and what lies where. */
final class HostTest {
    private HostTest() {
    }

    static void run() {
        sheets();
        cells();
        copies();
        copyRefusals();
        claims();
        claimRefusals();
        taken();
    }

    private static void sheets() {
        HiddenWorks x = new HiddenWorks();
        int[][] wrong = {{-1, 0, 1}, {4, 0, 1}, {0, -2, 1}, {0, 3, 1}, {0, 0, 41}, {0, 3, -1}, {4, -1, 0}};
        for (int[] w : wrong) {
            Check.due("sheet " + w[0] + " " + w[1] + " " + w[2], x.sheet(w[0], w[1], w[2]), -2);
        }
        Check.due("below 0", x.sheet(0, 0, -1), -14);
        Check.due("far below 0", x.sheet(0, 2, Integer.MIN_VALUE), -14);
        Check.due("still missing", x.cell(0, 0, 1), -11);
        Check.due("forty", x.sheet(0, 1, 40), 1);
        Check.due("the last", x.cell(0, 39, 1), 1);
        Check.due("refused", x.sheet(0, 1, -1), -14);
        Check.due("as it was", x.cell(0, 39, 1), 1);
        Check.due("missing, n doesn't matter", x.sheet(0, -1, 41), 1);
        Check.due("it is", x.cell(0, 0, 1), -11);
        Check.due("missing twice", x.sheet(0, -1, -1), 1);
        Check.due("none wide", x.sheet(0, 2, 0), 1);
        Check.due("nothing in it", x.cell(0, 0, 1), -12);
        Check.sheet(x, 0, 2, 1, 2);
        x.sheet(0, 2, 2);
        Check.due("all 0 again", x.wild(0, 2, 0), -2);
        x.cell(0, 1, 1);
        Check.due("0, 1", x.wild(0, 2, 0), 0);
        Check.due("0", x.clauseTold(0, 0, 0), 0);
    }

    /** What a sheet has at 0 and 1 is seen as a wild clause of ten letters, -2 if it is none. */
    private static int plainOf(int sort, int v) {
        HiddenWorks x = new HiddenWorks();
        x.sheet(1, sort, 2);
        Check.due("cell", x.cell(1, 0, v), 1);
        int t = x.wild(0, 10, 1);
        return t < 0 ? t : x.clauseTold(t, 0, 0);
    }

    private static void cells() {
        HiddenWorks x = new HiddenWorks();
        Check.due("no sheet", x.cell(-1, 0, 0), -2);
        Check.due("no sheet", x.cell(4, 0, 0), -2);
        Check.due("missing, ahead of its place", x.cell(0, -1, 0), -11);
        x.sheet(0, 0, 3);
        Check.due("below", x.cell(0, -1, 0), -12);
        Check.due("above", x.cell(0, 3, 0), -12);
        Check.due("far above", x.cell(0, Integer.MAX_VALUE, 0), -12);
        Check.due("the last", x.cell(0, 2, 0), 1);
        Check.due("a byte", plainOf(0, 64), 64);
        Check.due("its lowest 8 bits", plainOf(0, 256 + 7), 7);
        Check.due("a byte is signed", plainOf(0, 128), -2);
        Check.due("a short", plainOf(1, 515), 515);
        Check.due("its lowest 16 bits", plainOf(1, 65536 + 515), 515);
        Check.due("a short is signed", plainOf(1, 32768 + 1), -2);
        Check.due("an int", plainOf(2, 515), 515);
        Check.due("all of its bits", plainOf(2, 65536 + 515), -2);
    }

    private static void row(HiddenWorks x, int s, int... due) {
        for (int i = 0; i + 1 < due.length; i += 2) {
            x.sheet(3, 2, 2);
            x.copy(s, i, 3, 0, 2);
            int t = x.wild(0, 10, 3);
            Check.due("a clause at " + i, t >= 0);
            Check.due("at " + i, x.clauseTold(t, 0, 0), due[i]);
            Check.due("at " + (i + 1), x.clauseTold(t, 0, 1), due[i + 1]);
        }
        x.back();
    }

    private static void copies() {
        HiddenWorks x = new HiddenWorks();
        x.image();
        Check.sheet(x, 0, 2, 1, 2, 4, 8, 16, 32);
        Check.due("to its own later places", x.copy(0, 0, 0, 2, 4), 4);
        row(x, 0, 1, 2, 1, 2, 4, 8);
        Check.sheet(x, 0, 2, 1, 2, 4, 8, 16, 32);
        Check.due("to its own earlier places", x.copy(0, 2, 0, 0, 4), 4);
        row(x, 0, 4, 8, 16, 32, 16, 32);
        Check.sheet(x, 1, 2, 64, 128, 256);
        Check.due("to another one", x.copy(1, 1, 0, 5, 1), 1);
        row(x, 0, 4, 8, 16, 32, 16, 128);
        Check.due("all of it", x.copy(1, 0, 0, 0, 3), 3);
        row(x, 0, 64, 128, 256, 32, 16, 128);
        Check.due("none, at the ends", x.copy(1, 3, 0, 6, 0), 0);
        Check.due("all to itself", x.copy(0, 0, 0, 0, 6), 6);
    }

    private static void copyRefusals() {
        HiddenWorks x = new HiddenWorks();
        Check.due("no sheet", x.copy(-1, 0, 0, 0, 1), -2);
        Check.due("no other, ahead of missing", x.copy(0, 0, 4, 0, 1), -2);
        Check.due("missing", x.copy(0, 0, 1, 0, 1), -11);
        x.sheet(0, 1, 4);
        Check.due("the other is missing", x.copy(0, 0, 1, 0, 1), -11);
        Check.due("the first is missing", x.copy(1, 0, 0, 0, 1), -11);
        x.sheet(1, 2, 3);
        Check.due("unlike, ahead of places", x.copy(0, -1, 1, 0, 1), -13);
        x.sheet(1, 1, 3);
        int[][] wrong = {{-1, 0, 1}, {0, -1, 1}, {0, 0, -1}, {1, 0, 4}, {0, 0, 4}, {0, 1, 3}, {5, 0, 0}, {0, 4, 0},
            {Integer.MAX_VALUE, 0, 1}, {0, Integer.MAX_VALUE, 1}, {1, 1, Integer.MAX_VALUE}, {0, 0, Integer.MIN_VALUE}};
        for (int[] w : wrong) {
            Check.due("copy " + w[0] + " " + w[1] + " " + w[2], x.copy(0, w[0], 1, w[1], w[2]), -12);
        }
        Check.due("as much as there is", x.copy(0, 1, 1, 0, 3), 3);
    }

    private static void claims() {
        HiddenWorks x = new HiddenWorks();
        Check.wild(x, 0, 3, 1, 0);
        Check.sheet(x, 0, 1, 9, 0, 5, 1, 5, 0, 0, 0, 2001, 0, 6);
        Check.due("two of five come", x.claims(0, 1, 1, 5), 2);
        Check.due("the first", x.claimTold(0, 1), 5);
        Check.due("the second", x.claimTold(1, 1), 6);
        Check.due("none", x.claims(0, 1, 0, 0), 0);
        Check.due("beyond it: what stood ahead came", x.claims(0, 1, 9, 2), -12);
        Check.due("one came", x.count(2), 3);
        Check.due("it", x.claimTold(2, 1), 6);
        Check.due("half a pair doesn't come", x.claims(0, 1, 10, 1), -12);
        Check.due("nothing came", x.count(2), 3);
        int[] many = new int[40];
        for (int i = 0; i < 40; i++) {
            many[i] = i % 2 * 7;
        }
        Check.sheet(x, 1, 0, many);
        Check.due("seventeen more", x.claims(1, 0, 0, 20), 17);
        Check.due("full: none comes", x.claims(1, 0, 0, 20), 0);
        Check.due("full, and outside", x.claims(1, 0, 2, 20), -12);
        Check.due("twenty", x.count(2), 20);
    }

    private static void claimRefusals() {
        HiddenWorks x = new HiddenWorks();
        Check.wild(x, 0, 3, 1, 0);
        int[][] wrong = {{-1, 0, 0, 1}, {4, 0, 0, 1}, {0, -1, 0, 1}, {0, 3, 0, 1}, {0, 0, 0, -1}, {0, 0, 0, 21}};
        for (int[] w : wrong) {
            Check.due("claims " + w[0] + " " + w[1] + " " + w[3], x.claims(w[0], w[1], w[2], w[3]), -2);
        }
        Check.due("missing", x.claims(0, 0, 0, 1), -11);
        Check.sheet(x, 0, 2, 0, 5);
        Check.due("of another sort, ahead of its place", x.claims(0, 1, 9, 1), -13);
        Check.due("below", x.claims(0, 2, -1, 1), -12);
        Check.due("far below", x.claims(0, 2, Integer.MIN_VALUE, 20), -12);
        Check.due("above", x.claims(0, 2, 2, 1), -12);
        Check.due("far above", x.claims(0, 2, Integer.MAX_VALUE, 20), -12);
        Check.due("nothing came", x.count(2), 0);
        Check.due("none of a far place", x.claims(0, 2, 99, 0), 0);
    }

    private static void taken() {
        HiddenWorks x = new HiddenWorks();
        int[] isOne = {1, 1 | 2, 1 | 4, 1 | 2 | 8, 1 | 4 | 16, 1 | 32};
        for (int kind = 0; kind < 6; kind++) {
            Check.wild(x, kind, 3, 1, 0);
            for (int as = 0; as < 8; as++) {
                Check.due("taken " + kind + " as " + as, x.taken(0, kind, as), (isOne[kind] >> as & 1) == 1 ? kind : -13);
            }
        }
        Check.recipe(x, "k0 n4 c9 w2 0 1 2");
        x.claim(3, 77);
        for (int as = 0; as < 8; as++) {
            Check.due("a recipe as " + as, x.taken(1, 0, as), as == 6 ? 2 : -13);
            Check.due("a claim as " + as, x.taken(2, 0, as), as == 7 ? 77 : -13);
        }
        int[][] none = {{0, 6}, {0, -1}, {1, 1}, {1, -1}, {2, 1}, {2, -1}, {0, Integer.MIN_VALUE}, {2, Integer.MAX_VALUE}};
        for (int[] n : none) {
            Check.due("nothing at " + n[0] + " " + n[1], x.taken(n[0], n[1], 0), -11);
        }
        int[][] wrong = {{-1, 0}, {3, 0}, {0, -1}, {0, 8}};
        for (int[] w : wrong) {
            Check.due("taken " + w[0] + " " + w[1], x.taken(w[0], 99, w[1]), -2);
        }
    }
}
