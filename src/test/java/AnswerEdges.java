/** The edges of answers, hints, and clauses that are needed: promises 9 to 14. */
final class AnswerEdges {
    private static final int LOW = Integer.MIN_VALUE, HIGH = Integer.MAX_VALUE;

    private AnswerEdges() {
    }

    static void run() {
        firstThatDoesNotHold();
        solvesRefused();
        howMany();
        answersRefused();
        byNumbers();
        noSuchAnswer();
        nearestOfLikeOnes();
        nearestRefused();
        fewestButSome();
        hintOfLikeOnes();
        hintRefused();
        withoutEach();
        neededOfNone();
    }

    /** A wild task of ten letters without a clause, and one that nothing solves. */
    private static HiddenWorks widest() {
        HiddenWorks x = new HiddenWorks();
        Check.wild(x, 0, 10);
        Check.wild(x, 0, 10, 512, 0, 0, 512);
        return x;
    }

    private static void noTask(HiddenWorks x, int t) {
        Check.due("solves, task " + t, x.solves(t, 0), -5);
        Check.due("answers, task " + t, x.answers(t, 0, 0), -5);
        Check.due("answer, task " + t, x.answer(t, 0), -5);
        Check.due("nearest, task " + t, x.nearest(t, 0), -5);
        Check.due("hint, task " + t, x.hint(t), -5);
        Check.due("needed, task " + t, x.needed(t), -5);
    }

    private static void firstThatDoesNotHold() {
        Doc.promise(9, "The first CLAUSE that doesn't HOLD by an ANSWER (-1: it SOLVES).");
        HiddenWorks x = new HiddenWorks();
        Check.wild(x, 0, 2, 1, 0, 2, 0, 1, 2, 1, 0);
        int[] due = {0, 1, 0, -1};
        for (int row = 0; row < 4; row++) {
            Check.due("solves " + row, x.solves(0, row), due[row]);
        }
        Check.recipe(x, "k0 n1 c24 w1 0 1");
        x.make(0, 7);
        int hidden = x.taskTold(1, 3);
        Check.due("all of 24 hold", x.solves(1, hidden), -1);
        Check.due("none does", x.solves(1, 1 - hidden), 0);
    }

    private static void solvesRefused() {
        Doc.promise(9, "-5: TASK; BAD: not 0 .. 2 to the n less 1.");
        HiddenWorks x = widest();
        Check.due("the first", x.solves(0, 0), -1);
        Check.due("the last", x.solves(0, 1023), -1);
        for (int n = 1; n <= 10; n++) {
            HiddenWorks y = new HiddenWorks();
            Check.wild(y, 0, n, 1, 0);
            Check.due("the last of " + n, y.solves(0, (1 << n) - 1), -1);
            Check.due("the one behind it", y.solves(0, 1 << n), -2);
        }
        for (int row : new int[] {-1, 1024, LOW, HIGH}) {
            Check.due("row " + row, x.solves(0, row), -2);
            Check.due("row " + row + ", the task ahead", x.solves(2, row), -5);
        }
        for (int t : new int[] {-1, 2, 8, LOW, HIGH}) {
            noTask(x, t);
        }
        noTask(new HiddenWorks(), 0);
    }

    private static void howMany() {
        Doc.promise(10, "How many ANSWERS SOLVE that have told letters (bits) as told.");
        HiddenWorks x = widest();
        Check.due("all", x.answers(0, 0, 0), 1024);
        Check.due("one letter is told", x.answers(0, 512, 512), 512);
        Check.due("all are told", x.answers(0, 1023, 1023), 1);
        Check.due("all are told false", x.answers(0, 1023, 0), 1);
        Check.due("none", x.answers(1, 0, 0), 0);
        Check.wild(x, 0, 2, 3, 0);
        Check.due("1, 2, 3", x.answers(2, 0, 0), 3);
        Check.due("of them with the first false", x.answers(2, 1, 0), 1);
        Check.due("with the second true", x.answers(2, 2, 2), 2);
        Check.due("with both false", x.answers(2, 3, 0), 0);
    }

    private static void answersRefused() {
        Doc.promise(10, "-5: TASK; BAD: bits beyond, as has bits that aren't told.");
        HiddenWorks x = widest();
        for (int fixed : new int[] {1024, -1, LOW, HIGH, 1025}) {
            Check.due("told " + fixed, x.answers(0, fixed, 0), -2);
            Check.due("told " + fixed + ", and as", x.answers(0, fixed, fixed), -2);
        }
        for (int as : new int[] {1, 512, 1024, -1, LOW, HIGH}) {
            Check.due("none told, as " + as, x.answers(0, 0, as), -2);
            Check.due("two told, as " + as, x.answers(0, 6, as), -2);
            Check.due("the task ahead of as " + as, x.answers(2, 0, as), -5);
        }
        Check.due("more than is told", x.answers(0, 6, 7), -2);
        Check.due("as much as is told", x.answers(0, 6, 6), 256);
        Check.due("the task ahead", x.answers(-1, 1024, 0), -5);
    }

    private static void byNumbers() {
        Doc.promise(11, "The i-th ANSWER that SOLVES, by numbers.");
        HiddenWorks x = widest();
        Check.due("the first of all", x.answer(0, 0), 0);
        Check.due("the last of all", x.answer(0, 1023), 1023);
        Check.wild(x, 2, 3, 7, 0);
        int[] due = {1, 2, 4, 7};
        for (int i = 0; i < 4; i++) {
            Check.due("answer " + i, x.answer(2, i), due[i]);
        }
    }

    private static void noSuchAnswer() {
        Doc.promise(11, "-5: TASK; NONE.");
        HiddenWorks x = widest();
        for (int i : new int[] {-1, 1024, LOW, HIGH}) {
            Check.due("answer " + i, x.answer(0, i), -1);
            Check.due("answer " + i + ", the task ahead", x.answer(2, i), -5);
        }
        Check.due("nothing solves", x.answer(1, 0), -1);
        Check.wild(x, 2, 3, 7, 0);
        Check.due("the last", x.answer(2, 3), 7);
        Check.due("behind it", x.answer(2, 4), -1);
    }

    private static void nearestOfLikeOnes() {
        Doc.promise(12, "Of those that SOLVE the one that is unlike a row in the fewest letters, of like ones the least.");
        HiddenWorks x = widest();
        Check.due("itself", x.nearest(0, 0), 0);
        Check.due("itself, the last", x.nearest(0, 1023), 1023);
        Check.wild(x, 2, 3, 7, 0);
        int[] due = {1, 1, 2, 1, 4, 1, 2, 7};
        for (int row = 0; row < 8; row++) {
            Check.due("nearest to " + row, x.nearest(2, row), due[row]);
        }
        Check.wild(x, 0, 10, 512, 0, 0, 256);
        Check.due("two letters away, not one more", x.nearest(3, 256 | 5), 512 | 5);
        int[] all = new int[20];
        for (int l = 0; l < 10; l++) {
            all[2 * l + l % 2] = 1 << l;
        }
        Check.wild(x, 0, 10, all);
        Check.due("all ten letters away", x.nearest(4, 0b1010101010), 0b0101010101);
    }

    private static void nearestRefused() {
        Doc.promise(12, "-5: TASK; BAD: row; NONE.");
        HiddenWorks x = widest();
        for (int row : new int[] {-1, 1024, LOW, HIGH}) {
            Check.due("row " + row, x.nearest(0, row), -2);
            Check.due("row " + row + ", ahead of none", x.nearest(1, row), -2);
            Check.due("row " + row + ", the task ahead", x.nearest(2, row), -5);
        }
        Check.due("none, the first row", x.nearest(1, 0), -1);
        Check.due("none, the last row", x.nearest(1, 1023), -1);
    }

    private static void fewestButSome() {
        Doc.promise(13, "The letter and truth that leave the fewest ANSWERS, but some: twice the letter, and 1 if true;");
        HiddenWorks x = new HiddenWorks();
        Check.wild(x, 0, 3, 1, 0, 4, 2);
        Check.due("1, 5, 7: b true leaves 1, and c false", x.hint(0), 3);
        Check.wild(x, 0, 3, 1, 0, 2, 4);
        Check.due("1, 3, 7: b false leaves 1, and c true", x.hint(1), 2);
        Check.wild(x, 0, 1, 0, 1);
        Check.due("false alone", x.hint(2), 0);
        Check.wild(x, 0, 1, 1, 0);
        Check.due("true alone: false leaves none", x.hint(3), 1);
        Check.wild(x, 0, 10, 512 | 256, 0, 0, 128, 64, 0, 0, 32, 16, 0, 0, 8, 4, 0, 0, 2, 1, 0, 512, 256);
        Check.due("the last letters are true and any", x.answers(4, 0, 0), 2);
        Check.due("256 false leaves 1", x.hint(4), 16);
        Check.wild(x, 0, 10, 256, 0, 0, 128, 64, 0, 0, 32, 16, 0, 0, 8, 4, 0, 0, 2, 1, 0);
        Check.due("the last letter is any: false leaves 1", x.hint(5), 18);
        Check.wild(x, 0, 10, 512, 0, 512, 1, 512 | 256, 2);
        Check.due("the last letter is true: all others leave half, the first false", x.hint(6), 0);
    }

    private static void hintOfLikeOnes() {
        Doc.promise(13, "of like ones the least such number.");
        HiddenWorks x = new HiddenWorks();
        Check.wild(x, 0, 10);
        Check.due("all alike", x.hint(0), 0);
        Check.wild(x, 2, 2, 3, 0);
        Check.due("each leaves 1", x.hint(1), 0);
        Check.wild(x, 0, 2, 3, 0);
        Check.due("1, 2, 3: each false leaves 1", x.hint(2), 0);
        Check.wild(x, 0, 2, 0, 3);
        Check.due("0, 1, 2: each true leaves 1", x.hint(3), 1);
        Check.wild(x, 0, 3, 0, 1, 2, 0);
        Check.due("2, 6: not the first or second letter, one leaves all, one none", x.hint(4), 4);
        Check.wild(x, 0, 2, 1, 0, 2, 0);
        Check.due("3 alone: both letters leave it", x.hint(5), 1);
        Check.wild(x, 0, 2, 1, 0, 0, 2);
        Check.due("1 alone", x.hint(6), 1);
        Check.wild(x, 0, 2, 0, 1, 2, 0);
        Check.due("2 alone: the first letter false leaves it", x.hint(7), 0);
    }

    private static void hintRefused() {
        Doc.promise(13, "-5: TASK; NONE.");
        HiddenWorks x = widest();
        Check.due("nothing solves", x.hint(1), -1);
        for (int t : new int[] {-1, 2, 8, LOW, HIGH}) {
            Check.due("task " + t, x.hint(t), -5);
        }
    }

    private static void withoutEach() {
        Doc.promise(14, "CLAUSES (bits) without each of which, alone, more would SOLVE.");
        HiddenWorks x = new HiddenWorks();
        Check.wild(x, 0, 2, 1, 0, 2, 0, 3, 0);
        Check.due("the third follows from the first", x.needed(0), 3);
        Check.wild(x, 0, 2, 1, 0, 1, 0);
        Check.due("twice the same", x.needed(1), 0);
        Check.wild(x, 0, 1, 1, 0, 0, 1);
        Check.due("against one another", x.needed(2), 3);
        Check.wild(x, 0, 2, 1, 0, 0, 1, 2, 0, 0, 2);
        Check.due("two pairs against one another", x.needed(3), 0);
        int[] twenty = new int[40];
        for (int c = 0; c < 20; c++) {
            twenty[2 * c] = c < 19 ? 1 : 2;
        }
        Check.wild(x, 0, 2, twenty);
        Check.due("just the last", x.needed(4), 1 << 19);
        HiddenWorks y = new HiddenWorks();
        Check.recipe(y, "k0 n10 c24 w1 0 1");
        y.make(0, 1);
        int[] times = new int[10], letters = new int[24];
        for (int c = 0; c < 24; c++) {
            letters[c] = Integer.numberOfTrailingZeros(y.clauseTold(0, c, 0) | y.clauseTold(0, c, 1));
            times[letters[c]]++;
        }
        int due = 0;
        for (int c = 0; c < 24; c++) {
            due |= times[letters[c]] == 1 ? 1 << c : 0;
        }
        Check.due("of 24 those that come once", y.needed(0), due);
    }

    private static void neededOfNone() {
        Doc.promise(14, "-5: TASK.");
        HiddenWorks x = widest();
        Check.due("no clauses", x.needed(0), 0);
        Check.due("two against one another", x.needed(1), 3);
        for (int t : new int[] {-1, 2, 8, LOW, HIGH}) {
            Check.due("task " + t, x.needed(t), -5);
        }
        Check.due("no task at all", new HiddenWorks().needed(0), -5);
    }
}
