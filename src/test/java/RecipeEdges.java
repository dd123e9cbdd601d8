/** The edges of the tape and its recipes: the terms' second part up to FAULT, promises 2 to 4, and 27. */
final class RecipeEdges {
    private static final int LOW = Integer.MIN_VALUE, HIGH = Integer.MAX_VALUE;
    private static final String WHOLE = "k5 n10 c24 w3 0 0 98 7";

    private RecipeEdges() {
    }

    static void run() {
        tapeOfEighty();
        sixRecipes();
        kinds();
        letters();
        clauses();
        widths();
        weights();
        blanks();
        otherBytes();
        digits();
        weightsOfSuchAsHold();
        endsTooEarly();
        noWeightAboveNone();
        firstDigits();
        fed();
        feedRefused();
        emptiedTape();
        fullAheadOfFault();
        told();
        toldNothing();
        counts();
    }

    private static void fault(String text, int place) {
        HiddenWorks x = new HiddenWorks();
        Check.due("'" + text + "'", Check.recipe(x, text), -100 - place);
        Check.due("'" + text + "' is no recipe", x.count(1), 0);
        Check.due("'" + text + "' is gone", x.count(3), 0);
    }

    private static void whole(String text, int... told) {
        HiddenWorks x = new HiddenWorks();
        Check.due("'" + text + "'", Check.recipe(x, text), 0);
        for (int what = 0; what < told.length; what++) {
            Check.due("'" + text + "', " + what, x.recipeTold(0, what), told[what]);
        }
    }

    private static void tapeOfEighty() {
        Doc.term("RECIPES are read from THE TAPE (80 bytes at most)");
        HiddenWorks x = new HiddenWorks();
        String eighty = "k5" + " ".repeat(58) + " n10 c24 w3 0 0 98 7";
        Check.due("eighty bytes", eighty.length(), 80);
        Check.due("the last of them", Check.feed(x, eighty), 80);
        Check.due("one more", x.feed(' ', 1), -4);
        Check.due("they are a recipe", x.recipe(), 0);
        Check.due("its last weight", x.recipeTold(0, 7), 7);
        Check.due("eighty of no recipe", Check.recipe(x, " ".repeat(80)), -100);
        Check.due("the fault is the last byte", Check.recipe(x, eighty.substring(0, 79) + "x"), -179);
        Check.due("too early at the end", Check.recipe(x, eighty.substring(0, 79) + " "), -180);
    }

    private static void sixRecipes() {
        Doc.term("6 at most, numbered from 0 on:");
        HiddenWorks x = new HiddenWorks();
        for (int r = 0; r < 6; r++) {
            Check.due("a recipe", Check.recipe(x, "k0 n" + (r + 1) + " c0 w1 0 1"), r);
        }
        for (int r = 0; r < 6; r++) {
            Check.due("told", x.recipeTold(r, 1), r + 1);
        }
        Check.due("a seventh", Check.recipe(x, "k0 n7 c0 w1 0 1"), -4);
        Check.due("six are kept", x.count(1), 6);
        Check.due("no seventh is told", x.recipeTold(6, 1), -5);
    }

    private static void kinds() {
        Doc.term("k and the KIND (0 .. 5),");
        for (int kind = 0; kind <= 5; kind++) {
            whole("k" + kind + (kind == 4 ? " n1 c0 w1 1 0" : " n1 c0 w1 0 1"), kind);
        }
        fault("k6 n1 c0 w1 0 1", 1);
        fault("k9 n1 c0 w1 0 1", 1);
        fault("k99 n1 c0 w1 0 1", 1);
        fault("k-1 n1 c0 w1 0 1", 1);
        fault("K0 n1 c0 w1 0 1", 0);
        fault("0 n1 c0 w1 0 1", 0);
        fault("n1 k0 c0 w1 0 1", 0);
    }

    private static void letters() {
        Doc.term("n and how many letters (1 .. 10),");
        whole("k0 n1 c0 w1 0 1", 0, 1);
        whole("k0 n10 c0 w1 0 1", 0, 10);
        fault("k0 n0 c0 w1 0 1", 4);
        fault("k0 n00 c0 w1 0 1", 4);
        fault("k0 n11 c0 w1 0 1", 4);
        fault("k0 n99 c0 w1 0 1", 4);
        fault("k0 N1 c0 w1 0 1", 3);
        fault("k0 1 c0 w1 0 1", 3);
        fault("k0 c0 n1 w1 0 1", 3);
    }

    private static void clauses() {
        Doc.term("c and how many CLAUSES (0 .. 24),");
        whole("k0 n1 c0 w1 0 1", 0, 1, 0);
        whole("k0 n1 c24 w1 0 1", 0, 1, 24);
        fault("k0 n1 c25 w1 0 1", 7);
        fault("k0 n1 c99 w1 0 1", 7);
        fault("k0 n1 c-1 w1 0 1", 7);
        fault("k0 n1 C0 w1 0 1", 6);
        fault("k0 n1 w1 c0 0 1", 6);
    }

    private static void widths() {
        Doc.term("w and how WIDE (1 .. 3, no more than letters),");
        whole("k0 n3 c0 w1 0 1", 0, 3, 0, 1);
        whole("k0 n3 c0 w3 0 1 1 1", 0, 3, 0, 3);
        whole("k0 n2 c0 w2 0 1 1", 0, 2, 0, 2);
        whole("k0 n1 c0 w1 0 1", 0, 1, 0, 1);
        fault("k0 n3 c0 w0 1", 10);
        fault("k0 n3 c0 w00 1", 10);
        fault("k0 n3 c0 w4 0 1 1 1 1", 10);
        fault("k0 n2 c0 w3 0 1 1 1", 10);
        fault("k0 n1 c0 w2 0 1 1", 10);
        fault("k0 n10 c0 w4 0 1 1 1 1", 11);
        fault("k0 n3 c0 W1 0 1", 9);
        fault("k0 n3 c0 0 1", 9);
    }

    private static void weights() {
        Doc.term("then WEIGHTS (0 .. 99) for 0, 1, .. up to all of its literals being true by the HIDDEN answer;");
        whole("k4 n3 c0 w1 99 0", 4, 3, 0, 1, 99, 0);
        whole("k0 n3 c0 w2 0 99 0", 0, 3, 0, 2, 0, 99, 0);
        whole("k0 n3 c0 w3 0 0 1 99", 0, 3, 0, 3, 0, 0, 1, 99);
        fault("k0 n3 c0 w1 0 100", 16);
        fault("k0 n3 c0 w2 0 1 100", 18);
        fault("k0 n3 c0 w1 0", 13);
        fault("k0 n3 c0 w1 0 1 1", 15);
        fault("k0 n3 c0 w2 0 1", 15);
        fault("k0 n3 c0 w2 0 1 1 1", 17);
        fault("k0 n3 c0 w3 0 1 1", 17);
        fault("k0 n3 c0 w3 0 1 1 1 1", 19);
    }

    private static void blanks() {
        Doc.term("between these seven or less one blank (32) or more, none else.");
        String[] words = {"k0", "n3", "c0", "w3", "0", "1", "1", "1"};
        int[] places = {2, 5, 8, 11, 13, 15, 17}, faults = {2, 5, 8, 10, 12, 18, 18};
        StringBuilder far = new StringBuilder("k0");
        for (int gap = 1; gap <= 7; gap++) {
            StringBuilder without = new StringBuilder("k0"), wide = new StringBuilder("k0");
            for (int w = 1; w < 8; w++) {
                without.append(w == gap ? "" : " ").append(words[w]);
                wide.append(w == gap ? "      " : " ").append(words[w]);
            }
            whole(wide.toString(), 0, 3, 0, 3, 0, 1, 1, 1);
            fault(without.toString(), faults[gap - 1]);
            fault(without.insert(places[gap - 1], '\t').toString(), places[gap - 1]);
            far.append("    ").append(words[gap]);
        }
        whole(far.toString(), 0, 3, 0, 3, 0, 1, 1, 1);
        fault(" k0 n3 c0 w1 0 1", 0);
        fault("k 0 n3 c0 w1 0 1", 1);
        fault("k0 n 3 c0 w1 0 1", 4);
        fault("k0 n3 c 0 w1 0 1", 7);
        fault("k0 n3 c0 w 1 0 1", 10);
        fault("k0 n3 c0 w1 0 1 ", 15);
        fault("k0 n3 c0 w1 0 1  ", 15);
    }

    /** The bytes beside those that may be. */
    private static void otherBytes() {
        Doc.term("between these seven or less one blank (32) or more, none else. Numbers:");
        for (char other : new char[] {0, 31, 33, 160, 255}) {
            fault("k0" + other + "n3 c0 w1 0 1", 2);
            fault("k0 " + other + "n3 c0 w1 0 1", 3);
            fault("k0 n3 c0 w1 0" + other + "1", 13);
            fault("k0 n3 c0 w1 0 1" + other, 15);
        }
        for (char other : new char[] {'0' - 1, '9' + 1, '0' + 128, '+', '-'}) {
            fault("k" + other + " n3 c0 w1 0 1", 1);
            fault("k0 n1" + other + " c0 w1 0 1", 5);
            fault("k0 n3 c0 w1 0 " + other, 14);
        }
        for (char other : new char[] {'k' - 1, 'k' + 1, 'k' + 128}) {
            fault(other + "0 n3 c0 w1 0 1", 0);
        }
    }

    private static void digits() {
        Doc.term("Numbers: 1 or 2 digits.");
        whole("k05 n03 c04 w03 00 00 07 09", 5, 3, 4, 3, 0, 0, 7, 9);
        whole("k0 n9 c9 w1 0 9", 0, 9, 9, 1, 0, 9);
        whole("k0 n10 c19 w1 0 10", 0, 10, 19, 1, 0, 10);
        fault("k005 n3 c0 w1 0 1", 3);
        fault("k0 n099 c0 w1 0 1", 6);
        fault("k0 n100 c0 w1 0 1", 6);
        fault("k0 n3 c240 w1 0 1", 9);
        fault("k0 n3 c0 w011 0 1", 12);
        fault("k0 n3 c0 w1 000 1", 14);
        fault("k0 n3 c0 w1 0 990", 16);
        fault("k n3 c0 w1 0 1", 1);
        fault("k0 n c0 w1 0 1", 4);
        fault("k0 n3 c w1 0 1", 7);
        fault("k0 n3 c0 w 0 1", 10);
    }

    private static void weightsOfSuchAsHold() {
        Doc.term("A WEIGHT above 0 is just for such as HOLD.");
        String[][] holds = {{"01", "011", "0111"}, {"01", "010", "0110"}, {"01", "010", "0101"}, {"01", "010", "0100"},
            {"10", "101", "1010"}, {"01", "001", "0011"}};
        for (int kind = 0; kind < 6; kind++) {
            for (int wide = 1; wide <= 3; wide++) {
                for (int is = 0; is <= wide; is++) {
                    StringBuilder text = new StringBuilder("k").append(kind).append(" n3 c0 w").append(wide);
                    for (int i = 0; i <= wide; i++) {
                        text.append(i == is ? " 1" : " 0");
                    }
                    if (holds[kind][wide - 1].charAt(is) == '1') {
                        whole(text.toString(), kind, 3, 0, wide);
                    } else {
                        fault(text.toString(), 12 + 2 * is);
                        fault(text.toString().replace(" 1", " 99"), 12 + 2 * is);
                        fault(text.toString().replace(" 1", " 01"), 12 + 2 * is);
                    }
                }
            }
        }
    }

    private static void endsTooEarly() {
        Doc.term("FAULT: the place of the first byte with which none goes on so (how many there are, if it ends too early,");
        for (int n = 0; n < WHOLE.length(); n++) {
            fault(WHOLE.substring(0, n), n);
            fault(WHOLE.substring(0, n) + "x", n);
            fault(WHOLE.substring(0, n) + "x" + WHOLE.substring(n), n);
        }
        whole(WHOLE, 5, 10, 24, 3, 0, 0, 98, 7);
        fault(WHOLE + "x", WHOLE.length());
        fault(WHOLE + " ", WHOLE.length());
        fault(WHOLE + " 1", WHOLE.length());
    }

    private static void noWeightAboveNone() {
        Doc.term("or no WEIGHT is above 0);");
        fault("k0 n3 c0 w1 0 0", 15);
        fault("k4 n3 c0 w1 0 0", 15);
        fault("k0 n3 c0 w2 0 0 0", 17);
        fault("k0 n3 c0 w3 0 0 0 0", 19);
        fault("k0 n3 c0 w3 00  00 0 00", 23);
        fault("k0 n3 c0 w1 0 0x", 15);
        whole("k0 n3 c0 w3 0 0 0 1", 0);
        whole("k0 n3 c0 w3 0 1 0 0", 0);
    }

    private static void firstDigits() {
        Doc.term("of a number that may not be its first digit.");
        fault("k10 n3 c0 w1 0 1", 1);
        fault("k06 n3 c0 w1 0 1", 1);
        fault("k0  n11", 5);
        fault("k0 n0", 4);
        fault("k0 n00", 4);
        fault("k0 n19x", 4);
        fault("k0 n3 c25", 7);
        fault("k0 n3 c99 ", 7);
        fault("k0 n3 c0 w04", 10);
        fault("k0 n3 c0 w30", 10);
        fault("k0 n3 c0 w1 10 1", 12);
        fault("k0 n3 c0 w1 09 1", 12);
        fault("k1 n3 c0 w2 0 1 99", 16);
    }

    private static void fed() {
        Doc.promise(2, "The n lowest bytes of w, the highest first, come behind THE TAPE's: how many it has.");
        String text = "k4 n7 c2";
        for (int n = 1; n <= 8; n++) {
            HiddenWorks x = new HiddenWorks();
            int at = 0;
            while (at < text.length()) {
                int some = Math.min(n, text.length() - at);
                long above = some == 8 ? 0 : 0x7A7A7A7A7A7A7A7AL << 8 * some;
                Check.due(some + " more", x.feed(above | Check.packed(text.substring(at, at + some)), some), at + some);
                at += some;
            }
            Check.due("the last", x.feed(-1L << 48 | Check.packed(" w1 9"), 5), 13);
            Check.due("one more", x.feed(' ', 1), 14);
            Check.due("and one", x.feed('0' - 256L, 1), 15);
            Check.due("a recipe by " + n, x.recipe(), 0);
            Check.due("its weight", x.recipeTold(0, 4), 9);
        }
    }

    private static void feedRefused() {
        Doc.promise(2, "BAD: n not 1 .. 8; FULL.");
        HiddenWorks x = new HiddenWorks();
        for (int n : new int[] {0, 9, -1, LOW, HIGH}) {
            Check.due(n + " bytes", x.feed(-1L, n), -2);
        }
        Check.due("nothing came", x.count(3), 0);
        Check.due("one", x.feed('k', 1), 1);
        for (int i = 0; i < 9; i++) {
            Check.due("eight", x.feed(Check.packed("0 n1 c0 "), 8), 9 + 8 * i);
        }
        Check.due("eight beyond", x.feed(-1L, 8), -4);
        Check.due("as many as fit", x.feed(-1L, 7), 80);
        for (int n = 1; n <= 8; n++) {
            Check.due("full, " + n, x.feed(-1L, n), -4);
        }
        for (int n : new int[] {0, 9, -1, LOW, HIGH}) {
            Check.due("BAD ahead of FULL, " + n, x.feed(-1L, n), -2);
        }
        Check.due("eighty", x.count(3), 80);
        Check.due("they are as they were", x.recipe(), -109);
    }

    private static void emptiedTape() {
        Doc.promise(3, "THE TAPE, which is empty then (by a FAULT, too), is a RECIPE: its number; -100 less the place of its "
            + "FAULT.");
        HiddenWorks x = new HiddenWorks();
        Check.due("an empty one", x.recipe(), -100);
        Check.due("a recipe", Check.recipe(x, WHOLE), 0);
        Check.due("the tape is empty", x.count(3), 0);
        Check.due("no recipe twice", x.recipe(), -100);
        Check.due("a fault", Check.recipe(x, "k0 n3 c0 w1 0 x"), -114);
        Check.due("the tape is empty, too", x.count(3), 0);
        Check.due("the next recipe", Check.recipe(x, WHOLE), 1);
        Check.due("a byte is the first again", x.feed('k', 1), 1);
        Check.due("it ends too early", x.recipe(), -101);
    }

    private static void fullAheadOfFault() {
        Doc.promise(3, "FULL (ahead of the FAULT; then THE TAPE stays).");
        HiddenWorks x = new HiddenWorks();
        for (int r = 0; r < 5; r++) {
            Check.recipe(x, WHOLE);
        }
        Check.due("a fault while there is room", Check.recipe(x, "k0 n0"), -104);
        Check.due("the last", Check.recipe(x, WHOLE), 5);
        Check.due("an empty tape", x.recipe(), -4);
        Check.due("a fault", Check.recipe(x, "k0 n0"), -4);
        Check.due("it stays", x.count(3), 5);
        Check.due("no fault", Check.recipe(x, " c"), -4);
        Check.due("all stays", x.count(3), 7);
    }

    private static void told() {
        Doc.promise(4, "Of a RECIPE what 0 KIND, 1 letters, 2 CLAUSES, 3 WIDE, 4 .. WEIGHTS for 0, 1, .. true ones.");
        whole("k0 n10 c24 w3 0 97 98 99", 0, 10, 24, 3, 0, 97, 98, 99, -7);
        whole("k4 n2 c0 w2 5 0 6", 4, 2, 0, 2, 5, 0, 6, -7);
        whole("k4 n1 c1 w1 7 0", 4, 1, 1, 1, 7, 0, -7);
    }

    private static void toldNothing() {
        Doc.promise(4, "-5: no such RECIPE; -7: what.");
        HiddenWorks x = new HiddenWorks();
        Check.due("none", x.recipeTold(0, 0), -5);
        Check.recipe(x, "k0 n10 c24 w3 0 97 98 99");
        Check.recipe(x, "k4 n1 c1 w1 7 0");
        for (int what : new int[] {-1, 8, LOW, HIGH}) {
            Check.due("what " + what, x.recipeTold(0, what), -7);
        }
        for (int what : new int[] {-1, 6, 7, LOW, HIGH}) {
            Check.due("what " + what, x.recipeTold(1, what), -7);
        }
        for (int r : new int[] {-1, 2, 6, LOW, HIGH}) {
            Check.due("recipe " + r, x.recipeTold(r, 0), -5);
            Check.due("recipe " + r + ", ahead of what", x.recipeTold(r, 99), -5);
        }
    }

    private static void counts() {
        Doc.promise(27, "0 TASKS, 1 RECIPES, 2 CLAIMS, 3 bytes of THE TAPE. BAD.");
        HiddenWorks x = new HiddenWorks();
        for (int what = 0; what < 4; what++) {
            Check.due("none of " + what, x.count(what), 0);
        }
        for (int r = 0; r < 6; r++) {
            Check.recipe(x, WHOLE);
        }
        for (int t = 0; t < 8; t++) {
            x.make(0, t);
        }
        for (int k = 0; k < 20; k++) {
            x.claim(0, 1);
        }
        Check.feed(x, " ".repeat(80));
        int[] most = {8, 6, 20, 80};
        for (int what = 0; what < 4; what++) {
            Check.due("the most of " + what, x.count(what), most[what]);
        }
        for (int what : new int[] {-1, 4, LOW, HIGH}) {
            Check.due("what " + what, x.count(what), -2);
        }
    }
}
