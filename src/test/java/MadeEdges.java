import java.math.BigInteger;
import java.util.ArrayList;
import java.util.Collections;
import java.util.List;

/** The edges of how a task is made: the end of the terms' second part. */
final class MadeEdges {
    private MadeEdges() {
    }

    static void run() {
        drawnByHand();
        firstSeedAndLast();
        lettersOfClauses();
        everyDrawOfAll();
        waysOfWidths();
        trueByHidden();
    }

    /** The draws of a seed, as the document tells them. */
    private static final class Draws {
        private BigInteger lot;

        Draws(int seed) {
            lot = BigInteger.valueOf(seed + 1L);
        }

        int of(int n) {
            lot = lot.multiply(BigInteger.valueOf(48271)).mod(BigInteger.valueOf(2147483647));
            return lot.divide(BigInteger.valueOf(16)).mod(BigInteger.valueOf(n)).intValue();
        }

        int hidden(int letters) {
            int hidden = 0;
            for (int l = 0; l < letters; l++) {
                hidden += of(2) << l;
            }
            return hidden;
        }

        /** The letters of a clause, by numbers. */
        List<Integer> clause(int letters, int wide) {
            List<Integer> free = new ArrayList<>(), drawn = new ArrayList<>();
            for (int l = 0; l < letters; l++) {
                free.add(l);
            }
            for (int i = 0; i < wide; i++) {
                drawn.add(free.remove(of(letters - i)));
            }
            Collections.sort(drawn);
            return drawn;
        }
    }

    private static HiddenWorks made(String text, int seed) {
        HiddenWorks x = new HiddenWorks();
        Check.due("recipe", Check.recipe(x, text), 0);
        Check.due("made", x.make(0, seed), 0);
        return x;
    }

    private static int lettersOf(HiddenWorks x, int c) {
        return x.clauseTold(0, c, 0) | x.clauseTold(0, c, 1);
    }

    /** The letters of a clause whose literals are true by what is hidden. */
    private static int trueOf(HiddenWorks x, int c) {
        int hidden = x.taskTold(0, 3);
        return x.clauseTold(0, c, 0) & hidden | x.clauseTold(0, c, 1) & ~hidden;
    }

    /**
     * By seed 0: LOT 48271, by 16: 3016, even; then 182605794, by 16: 11412862, even; then 1291394886, by 16: 80712180, of 2
     * letters the first, number 0; then 1914720637, by 16: 119670039, of 5 any.
     */
    private static void drawnByHand() {
        Doc.term("A TASK is MADE: LOT is SEED and 1; each draw of n: LOT becomes LOT times 48271 modulo 2147483647; LOT by 16 "
            + "(cut), modulo n.");
        HiddenWorks x = made("k0 n2 c1 w1 0 5", 0);
        Check.due("hidden", x.taskTold(0, 3), 0);
        Check.due("plain", x.clauseTold(0, 0, 0), 0);
        Check.due("against", x.clauseTold(0, 0, 1), 1);
        for (int seed : new int[] {0, 1, 44488, 44489, 99998, 99999}) {
            Draws draws = new Draws(seed);
            HiddenWorks y = made("k0 n10 c24 w1 0 1", seed);
            Check.due("hidden by " + seed, y.taskTold(0, 3), draws.hidden(10));
            for (int c = 0; c < 24; c++) {
                Check.due("letter " + c + " by " + seed, lettersOf(y, c), 1 << draws.of(10));
                draws.of(1);
            }
        }
    }

    private static void firstSeedAndLast() {
        Doc.term("HIDDEN: for each letter, from 0 on, a draw of 2.");
        for (int n = 1; n <= 10; n++) {
            for (int seed = 0; seed <= 99999; seed += 11111) {
                HiddenWorks x = made("k0 n" + n + " c0 w1 0 1", seed);
                Check.due(n + " letters by " + seed, x.taskTold(0, 3), new Draws(seed).hidden(n));
            }
        }
    }

    private static void lettersOfClauses() {
        Doc.term("For each CLAUSE: its letters, one by one: of m letters that aren't in it yet by a draw of m the one with "
            + "that place (from 0 on).");
        String[] weights = {"w1 0 1", "w2 0 0 1", "w3 0 0 0 1"};
        for (int wide = 1; wide <= 3; wide++) {
            for (int n = wide; n <= 10; n++) {
                Draws draws = new Draws(70 + n);
                HiddenWorks x = made("k0 n" + n + " c24 " + weights[wide - 1], 70 + n);
                draws.hidden(n);
                for (int c = 0; c < 24; c++) {
                    int due = 0;
                    for (int l : draws.clause(n, wide)) {
                        due |= 1 << l;
                    }
                    draws.of(1);
                    Check.due("clause " + c + " of " + n, lettersOf(x, c), due);
                }
            }
        }
    }

    /** With weights 4, 2, 1 for 1, 2, 3 true of 3, ALL is 19: a draw of it tells a way. */
    private static void everyDrawOfAll() {
        Doc.term("Then a draw of ALL: by WEIGHTS times WAYS, from 0 true on, how many are true: from what is left over by those "
            + "ahead, by the WEIGHT (cut), which WAY: of 1 true the letter with that place (of the CLAUSE's, by numbers) is "
            + "true; of all but 1 (of 3) that letter is the one that isn't.");
        String[] ways = {"100", "100", "100", "100", "010", "010", "010", "010", "001", "001", "001", "001",
            "011", "011", "101", "101", "110", "110", "111"};
        boolean[] seen = new boolean[19];
        for (int seed = 0; seed < 6; seed++) {
            Draws draws = new Draws(seed);
            HiddenWorks x = made("k0 n6 c24 w3 0 4 2 1", seed);
            draws.hidden(6);
            for (int c = 0; c < 24; c++) {
                List<Integer> letters = draws.clause(6, 3);
                int draw = draws.of(19), due = 0;
                for (int i = 0; i < 3; i++) {
                    due |= ways[draw].charAt(i) == '1' ? 1 << letters.get(i) : 0;
                }
                seen[draw] = true;
                Check.due("draw " + draw, trueOf(x, c), due);
            }
        }
        for (int draw = 0; draw < 19; draw++) {
            Check.due("draw " + draw + " came", seen[draw]);
        }
    }

    /** The true ones of each clause, by the ways in the order of their draws. */
    private static void ways(String text, int n, int wide, String... ways) {
        boolean[] seen = new boolean[ways.length];
        for (int seed = 0; seed < 4; seed++) {
            Draws draws = new Draws(seed);
            HiddenWorks x = made(text, seed);
            draws.hidden(n);
            for (int c = 0; c < 24; c++) {
                List<Integer> letters = draws.clause(n, wide);
                int draw = draws.of(ways.length), due = 0;
                for (int i = 0; i < wide; i++) {
                    due |= ways[draw].charAt(i) == '1' ? 1 << letters.get(i) : 0;
                }
                seen[draw] = true;
                Check.due(text + ", draw " + draw, trueOf(x, c), due);
            }
        }
        for (int draw = 0; draw < ways.length; draw++) {
            Check.due(text + ", draw " + draw + " came", seen[draw]);
        }
    }

    private static void waysOfWidths() {
        Doc.term("WAYS that k of w are true: 1 for 0 and all, else w. ALL: all WEIGHTS times their WAYS together.");
        ways("k0 n4 c24 w1 0 2", 4, 1, "1", "1");
        ways("k4 n4 c24 w1 2 0", 4, 1, "0", "0");
        ways("k0 n4 c24 w2 0 1 2", 4, 2, "10", "01", "11", "11");
        ways("k0 n4 c24 w2 0 2 1", 4, 2, "10", "10", "01", "01", "11");
        ways("k4 n4 c24 w2 2 0 1", 4, 2, "00", "00", "11");
        ways("k1 n4 c24 w2 0 1 0", 4, 2, "10", "01");
        ways("k0 n4 c24 w3 0 1 1 1", 4, 3, "100", "010", "001", "011", "101", "110", "111");
        ways("k4 n4 c24 w3 2 0 1 0", 4, 3, "000", "000", "011", "101", "110");
        ways("k5 n3 c24 w3 0 0 1 2", 3, 3, "011", "101", "110", "111", "111");
        ways("k2 n3 c24 w3 0 1 0 2", 3, 3, "100", "010", "001", "111", "111");
        ways("k3 n3 c24 w3 0 2 0 0", 3, 3, "100", "100", "010", "010", "001", "001");
        ways("k0 n3 c24 w3 0 0 0 1", 3, 3, "111");
    }

    private static void trueByHidden() {
        Doc.term("Literals that are to be true stand so that they are by HIDDEN, the others so that they aren't.");
        for (int seed = 0; seed < 8; seed++) {
            HiddenWorks all = made("k0 n4 c24 w3 0 0 0 1", seed), none = made("k4 n4 c24 w2 1 0 0", seed);
            int hidden = all.taskTold(0, 3);
            Check.due("all stand so that they are", all.solves(0, hidden), -1);
            for (int c = 0; c < 24; c++) {
                Check.due("plain are true ones", all.clauseTold(0, c, 0) & ~hidden, 0);
                Check.due("against are false ones", all.clauseTold(0, c, 1) & hidden, 0);
                Check.due("plain are false ones", none.clauseTold(0, c, 0) & hidden, 0);
                Check.due("against are true ones", none.clauseTold(0, c, 1) & ~hidden, 0);
            }
        }
    }
}
