/** The edges of what leans: the first of the terms' third part, promises 15 to 18. */
final class LeanEdges {
    private static final int LOW = Integer.MIN_VALUE, HIGH = Integer.MAX_VALUE;
    private static final long NO = -4611686018427387904L;

    private LeanEdges() {
    }

    static void run() {
        plainLessAgainst();
        otherWayRound();
        leanRefused();
        leansOfRecipes();
        lowestTerms();
        leansRefused();
        pairsOfRecipes();
        pairsRefused();
        balanceWithinWeights();
        balanceOfSuchAsHold();
        balanceLeavesSome();
        balanceOfLikeOnes();
        balanceRefused();
    }

    private static HiddenWorks recipe(String text) {
        HiddenWorks x = new HiddenWorks();
        Check.due(text, Check.recipe(x, text), 0);
        return x;
    }

    private static void plainLessAgainst() {
        Doc.term("LEAN of a letter of a TASK: in how many CLAUSES it stands PLAIN less in how many AGAINST;");
        HiddenWorks x = new HiddenWorks();
        int[] plain = new int[40], against = new int[40];
        for (int c = 0; c < 20; c++) {
            plain[2 * c] = 512;
            against[2 * c + 1] = 512;
        }
        Check.wild(x, 0, 10, plain);
        Check.wild(x, 0, 10, against);
        Check.wild(x, 0, 10, 512, 256, 0, 512, 513, 0);
        Check.wild(x, 0, 10);
        int[][] due = {{0, 0, 20}, {0, 0, -20}, {1, -1, 1}, {0, 0, 0}};
        for (int t = 0; t < 4; t++) {
            Check.due("the first of " + t, x.lean(t, 0), due[t][0]);
            Check.due("the last but one of " + t, x.lean(t, 8), due[t][1]);
            Check.due("the last of " + t, x.lean(t, 9), due[t][2]);
        }
    }

    private static void otherWayRound() {
        Doc.term("the other way round, if it is false in HIDDEN.");
        boolean[] seen = new boolean[2];
        for (int seed = 0; seed < 6; seed++) {
            HiddenWorks toward = recipe("k0 n1 c24 w1 0 1"), away = recipe("k4 n1 c24 w1 1 0");
            toward.make(0, seed);
            away.make(0, seed);
            seen[toward.taskTold(0, 3)] = true;
            Check.due("all toward it", toward.lean(0, 0), 24);
            Check.due("all away from it", away.lean(0, 0), -24);
            Check.sheet(toward, 0, 2, 0);
            toward.twin(0, 0, 1);
            Check.due("a twin's is turned with it", toward.lean(1, 0), 24);
        }
        Check.due("one was false, one true", seen[0] && seen[1]);
        for (int seed = 0; seed < 6; seed++) {
            HiddenWorks toward = recipe("k0 n3 c24 w3 0 0 0 1"), away = recipe("k4 n2 c24 w2 1 0 0");
            toward.make(0, seed);
            away.make(0, seed);
            for (int l = 0; l < 3; l++) {
                Check.due("each letter toward it", toward.lean(0, l), 24);
                Check.due("each letter away from it", away.lean(0, l), l < 2 ? -24 : -1000);
            }
        }
        HiddenWorks x = new HiddenWorks();
        Check.wild(x, 0, 1, 0, 1);
        Check.due("nothing hidden: as it stands", x.lean(0, 0), -1);
        Check.sheet(x, 0, 2, 0);
        x.twin(0, 0, 1);
        Check.due("nor in its twin", x.lean(1, 0), 1);
    }

    private static void leanRefused() {
        Doc.promise(15, "LEAN of a letter. -1000: no such TASK, letter.");
        HiddenWorks x = new HiddenWorks();
        Check.due("no task at all", x.lean(0, 0), -1000);
        for (int n : new int[] {1, 10}) {
            int t = n == 1 ? 0 : 1;
            Check.wild(x, 0, n, 1 << n - 1, 0);
            Check.due("the last of " + n, x.lean(t, n - 1), 1);
            for (int l : new int[] {-1, n, 32, 64, LOW, HIGH}) {
                Check.due("letter " + l + " of " + n, x.lean(t, l), -1000);
            }
        }
        for (int t : new int[] {-1, 2, 8, LOW, HIGH}) {
            Check.due("task " + t, x.lean(t, 0), -1000);
        }
    }

    private static void leans(String text, long above, long below) {
        HiddenWorks x = recipe(text);
        Check.due("above, " + text, x.leans(0, 0), above);
        Check.due("below, " + text, x.leans(0, 1), below);
    }

    private static void leansOfRecipes() {
        Doc.term("Of a RECIPE: of k true: WEIGHT times WAYS times (k less those that aren't true), all together, by ALL times "
            + "how WIDE.");
        leans("k0 n3 c0 w1 0 1", 1, 1);
        leans("k4 n3 c0 w1 1 0", -1, 1);
        leans("k0 n3 c0 w2 0 1 0", 0, 1);
        leans("k0 n3 c0 w2 0 0 1", 1, 1);
        leans("k4 n3 c0 w2 1 0 0", -1, 1);
        leans("k0 n3 c0 w3 0 1 0 0", -1, 3);
        leans("k0 n3 c0 w3 0 0 1 0", 1, 3);
        leans("k0 n3 c0 w3 0 0 0 1", 1, 1);
        leans("k4 n3 c0 w3 1 0 0 0", -1, 1);
        leans("k0 n3 c0 w3 0 4 2 1", -1, 19);
        leans("k0 n3 c0 w2 0 1 3", 3, 5);
        leans("k4 n3 c0 w3 1 0 1 0", 0, 1);
        leans("k4 n3 c0 w3 3 0 1 0", -1, 3);
    }

    private static void lowestTerms() {
        Doc.promise(16, "LEAN of a RECIPE: part 0 above, 1 below the line, in lowest terms (0 by 1).");
        leans("k0 n3 c0 w3 0 99 99 99", 1, 7);
        leans("k0 n3 c0 w3 0 99 98 97", 6, 43);
        leans("k0 n3 c0 w3 0 99 98 0", -1, 591);
        leans("k0 n3 c0 w3 0 99 99 0", 0, 1);
        leans("k0 n3 c0 w2 0 99 0", 0, 1);
        leans("k0 n3 c0 w1 0 99", 1, 1);
        leans("k4 n3 c0 w1 99 0", -1, 1);
        leans("k4 n3 c0 w2 99 0 98", -1, 197);
    }

    private static void leansRefused() {
        Doc.promise(16, "NO: RECIPE, part.");
        Check.due("none", new HiddenWorks().leans(0, 0), NO);
        HiddenWorks x = recipe("k0 n3 c0 w1 0 1");
        for (int part : new int[] {-1, 2, LOW, HIGH}) {
            Check.due("part " + part, x.leans(0, part), NO);
        }
        for (int r : new int[] {-1, 1, 6, LOW, HIGH}) {
            Check.due("recipe " + r, x.leans(r, 0), NO);
            Check.due("recipe " + r + ", below", x.leans(r, 1), NO);
        }
    }

    private static void pairs(String text, long above, long below) {
        HiddenWorks x = recipe(text);
        Check.due("above, " + text, x.pairs(0, 0), above);
        Check.due("below, " + text, x.pairs(0, 1), below);
    }

    private static void pairsOfRecipes() {
        Doc.term("PAIRS of a RECIPE: of k true: WEIGHT times WAYS times (pairs of literals that are both true or both not, "
            + "less the others), together, by ALL times how many pairs a CLAUSE has (0 by 1: it has none).");
        pairs("k0 n3 c0 w1 0 1", 0, 1);
        pairs("k4 n3 c0 w1 99 0", 0, 1);
        pairs("k0 n3 c0 w2 0 1 0", -1, 1);
        pairs("k0 n3 c0 w2 0 0 1", 1, 1);
        pairs("k4 n3 c0 w2 1 0 0", 1, 1);
        pairs("k0 n3 c0 w2 0 1 2", 0, 1);
        pairs("k0 n3 c0 w2 0 1 3", 1, 5);
        pairs("k0 n3 c0 w3 0 1 0 0", -1, 3);
        pairs("k0 n3 c0 w3 0 0 1 0", -1, 3);
        pairs("k0 n3 c0 w3 0 0 0 1", 1, 1);
        pairs("k4 n3 c0 w3 1 0 0 0", 1, 1);
        pairs("k0 n3 c0 w3 0 4 2 1", -5, 19);
        pairs("k2 n3 c0 w3 0 1 0 1", 0, 1);
        pairs("k0 n3 c0 w3 0 99 98 97", -25, 172);
    }

    private static void pairsRefused() {
        Doc.promise(17, "PAIRS of a RECIPE: part as of leans(). NO.");
        Check.due("none", new HiddenWorks().pairs(0, 0), NO);
        HiddenWorks x = recipe("k0 n3 c0 w1 0 1");
        for (int part : new int[] {-1, 2, LOW, HIGH}) {
            Check.due("part " + part, x.pairs(0, part), NO);
        }
        for (int r : new int[] {-1, 1, 6, LOW, HIGH}) {
            Check.due("recipe " + r, x.pairs(r, 0), NO);
            Check.due("recipe " + r + ", below", x.pairs(r, 1), NO);
        }
    }

    private static void balance(String text, int due) {
        Check.due("balance, " + text, recipe(text).balance(0), due);
    }

    /** Of 1, 2, 3 true of 3 a recipe leans by 3 times (less the first, and the second, and the third). */
    private static void balanceWithinWeights() {
        Doc.term("BALANCE: one WEIGHT (of such as HOLD) becomes another (0 .. 99; or the same) so that the RECIPE doesn't LEAN");
        balance("k0 n3 c0 w3 0 0 50 49", 199);
        balance("k0 n3 c0 w3 0 0 50 50", -1);
        balance("k0 n3 c0 w3 0 99 0 0", 299);
        balance("k0 n3 c0 w3 0 99 0 1", 101);
        balance("k0 n3 c0 w3 0 50 99 50", 200);
        balance("k0 n3 c0 w3 0 50 51 99", -1);
        balance("k0 n3 c0 w3 0 50 50 98", 300);
        balance("k0 n3 c0 w3 0 3 3 0", 103);
        balance("k4 n3 c0 w3 99 0 99 0", 99);
        balance("k4 n3 c0 w3 0 0 99 0", 99);
        balance("k4 n3 c0 w2 0 0 99", 99);
        balance("k4 n3 c0 w2 99 0 0", 299);
    }

    private static void balanceOfSuchAsHold() {
        Doc.term("one WEIGHT (of such as HOLD) becomes another");
        balance("k0 n3 c0 w1 0 1", -1);
        balance("k4 n3 c0 w1 1 0", -1);
        balance("k3 n3 c0 w3 0 4 0 0", -1);
        balance("k1 n3 c0 w3 0 4 0 0", 204);
        balance("k2 n3 c0 w3 0 4 0 0", 304);
        balance("k5 n3 c0 w3 0 0 1 1", -1);
        balance("k5 n3 c0 w2 0 0 1", -1);
        balance("k2 n3 c0 w2 0 1 0", 101);
        balance("k3 n3 c0 w2 0 99 0", 199);
    }

    private static void balanceLeavesSome() {
        Doc.term("(and ALL isn't 0):");
        balance("k0 n3 c0 w3 0 0 1 0", 101);
        balance("k0 n3 c0 w3 0 0 0 1", 101);
        balance("k0 n3 c0 w3 0 1 0 0", 201);
        balance("k0 n3 c0 w2 0 0 1", -1);
        balance("k0 n3 c0 w2 0 1 1", 200);
        balance("k4 n3 c0 w2 0 0 1", 1);
        balance("k4 n3 c0 w3 1 0 0 0", 201);
    }

    /**
     * All that balance within 0 .. 99 are like ones, for a weight times its ways leans as much by 0, 1, 2 as by 3 true; and
     * two weights for as many true ones can't both balance, but for the middle of 2, where the same one comes first.
     */
    private static void balanceOfLikeOnes() {
        Doc.term("the least change; of like ones the first by how many are true, then the lesser WEIGHT.");
        balance("k0 n3 c0 w3 0 3 1 0", 101);
        balance("k0 n3 c0 w3 0 1 3 0", 103);
        balance("k0 n3 c0 w3 0 98 60 40", 258);
        balance("k0 n3 c0 w3 0 98 61 40", 258);
        balance("k0 n3 c0 w3 0 90 60 40", 250);
        balance("k0 n3 c0 w3 0 90 8 98", 382);
        balance("k0 n3 c0 w3 0 98 8 98", 200);
        balance("k4 n3 c0 w3 5 0 9 0", 9);
        balance("k4 n3 c0 w2 9 0 5", 5);
        balance("k0 n3 c0 w2 0 9 0", 109);
        balance("k0 n3 c0 w2 0 9 1", 200);
        balance("k2 n3 c0 w3 0 2 0 5", 105);
    }

    private static void balanceRefused() {
        Doc.promise(18, "BALANCE: 100 times how many are true, and the WEIGHT. -5: RECIPE; NONE.");
        Check.due("none", new HiddenWorks().balance(0), -5);
        HiddenWorks x = recipe("k4 n3 c0 w3 99 0 0 0");
        Check.due("for 2 true 99", x.balance(0), 299);
        Check.due("it changes nothing", x.recipeTold(0, 6), 0);
        Check.due("nor what it leans", x.leans(0, 0), -1);
        for (int r : new int[] {-1, 1, 6, LOW, HIGH}) {
            Check.due("recipe " + r, x.balance(r), -5);
        }
        balance("k4 n3 c0 w1 1 0", -1);
    }
}
