/** Promises 15 to 18: what leans toward what is hidden, and by which weight it leans no more. */
final class LeanTest {
    private LeanTest() {
    }

    static void run() {
        letters();
        lettersOfMade();
        fractions();
        balances();
        refusals();
    }

    private static void letters() {
        HiddenWorks x = new HiddenWorks();
        Check.wild(x, 0, 3, 3, 0, 1, 2, 1, 0, 0, 2);
        Check.due("a", x.lean(0, 0), 3);
        Check.due("b", x.lean(0, 1), -1);
        Check.due("c", x.lean(0, 2), 0);
        Check.due("letter below", x.lean(0, -1), -1000);
        Check.due("letter above", x.lean(0, 3), -1000);
        Check.due("letter far above", x.lean(0, 32), -1000);
        Check.due("task above", x.lean(1, 0), -1000);
        Check.due("task below", x.lean(-1, 0), -1000);
    }

    /** All literals are true by what is hidden, so each letter leans toward it in each of its clauses. */
    private static void lettersOfMade() {
        HiddenWorks x = new HiddenWorks();
        Check.recipe(x, "k0 n6 c20 w2 0 0 1");
        Check.recipe(x, "k4 n6 c20 w2 1 0 0");
        for (int t = 0; t < 8; t++) {
            x.make(t % 2, 31 * t);
            int all = 0;
            for (int l = 0; l < 6; l++) {
                int lean = x.lean(t, l);
                Check.due("toward it", lean == 0 || lean > 0 == (t % 2 == 0));
                all += lean;
            }
            Check.due("all literals", all, t % 2 == 0 ? 40 : -40);
        }
    }

    private static void fraction(String text, long leans, long over, long pairs, long overPairs) {
        HiddenWorks x = new HiddenWorks();
        Check.due(text, Check.recipe(x, text), 0);
        Check.due("leans " + text, x.leans(0, 0), leans);
        Check.due("leans below the line " + text, x.leans(0, 1), over);
        Check.due("pairs " + text, x.pairs(0, 0), pairs);
        Check.due("pairs below the line " + text, x.pairs(0, 1), overPairs);
    }

    private static void fractions() {
        fraction("k0 n6 c3 w3 0 4 2 1", -1, 19, -5, 19);
        fraction("k0 n6 c3 w3 0 0 0 1", 1, 1, 1, 1);
        fraction("k0 n6 c3 w3 0 1 0 0", -1, 3, -1, 3);
        fraction("k0 n6 c3 w3 0 1 1 1", 1, 7, -1, 7);
        fraction("k2 n6 c3 w3 0 1 0 1", 0, 1, 0, 1);
        fraction("k4 n6 c3 w2 1 0 3", 1, 2, 1, 1);
        fraction("k4 n6 c3 w2 3 0 1", -1, 2, 1, 1);
        fraction("k0 n6 c3 w2 0 1 0", 0, 1, -1, 1);
        fraction("k0 n6 c3 w2 0 1 2", 1, 2, 0, 1);
        fraction("k0 n6 c3 w1 0 7", 1, 1, 0, 1);
        fraction("k4 n6 c3 w1 7 0", -1, 1, 0, 1);
        fraction("k0 n6 c3 w3 0 99 99 99", 1, 7, -1, 7);
        fraction("k5 n6 c3 w3 0 0 3 2", 5, 11, -1, 11);
    }

    private static void balance(String text, int due) {
        HiddenWorks x = new HiddenWorks();
        Check.due(text, Check.recipe(x, text), 0);
        Check.due("balance " + text, x.balance(0), due);
        Check.due("it stays as it was " + text, x.recipeTold(0, 4), text.charAt(text.indexOf('w') + 3) - '0');
    }

    private static void balances() {
        balance("k0 n6 c3 w3 0 4 2 1", 103);
        balance("k0 n6 c3 w3 0 1 0 3", 103);
        balance("k0 n6 c3 w3 0 3 3 0", 103);
        balance("k0 n6 c3 w3 0 60 60 10", 170);
        balance("k0 n6 c3 w3 0 90 60 50", 240);
        balance("k0 n6 c3 w3 0 99 90 99", 200);
        balance("k0 n6 c3 w3 0 90 5 99", 385);
        balance("k0 n6 c3 w3 0 50 1 99", 349);
        balance("k0 n6 c3 w3 0 50 0 99", 199);
        balance("k0 n6 c3 w3 0 99 0 0", 299);
        balance("k0 n6 c3 w3 0 0 9 0", 109);
        balance("k4 n6 c3 w2 2 0 2", 2);
        balance("k4 n6 c3 w2 2 0 5", 5);
        balance("k4 n6 c3 w2 9 0 5", 5);
        balance("k0 n6 c3 w2 0 3 5", 200);
        balance("k0 n6 c3 w2 0 0 5", -1);
        balance("k0 n6 c3 w1 0 5", -1);
        balance("k1 n6 c3 w2 0 5 0", 105);
        balance("k5 n6 c3 w3 0 0 2 5", -1);
        balance("k1 n6 c3 w3 0 4 6 0", 106);
        balance("k3 n6 c3 w3 0 4 0 0", -1);
        balance("k4 n6 c3 w3 1 0 1 0", 1);
        balance("k4 n6 c3 w3 1 0 3 0", 3);
        balance("k4 n6 c3 w3 0 0 99 0", 99);
    }

    private static void refusals() {
        HiddenWorks x = new HiddenWorks();
        long no = -4611686018427387904L;
        Check.due("no recipe", x.leans(0, 0), no);
        Check.due("no recipe", x.pairs(0, 0), no);
        Check.due("no recipe", x.balance(0), -5);
        Check.recipe(x, "k0 n6 c3 w3 0 4 2 1");
        for (int part : new int[] {-1, 2, Integer.MIN_VALUE}) {
            Check.due("part " + part, x.leans(0, part), no);
            Check.due("part " + part, x.pairs(0, part), no);
        }
        Check.due("below", x.leans(-1, 0), no);
        Check.due("below", x.pairs(-1, 1), no);
        Check.due("below", x.balance(-1), -5);
    }
}
