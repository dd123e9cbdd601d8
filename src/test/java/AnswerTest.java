/** Promises 9 to 14: what solves, hints, what is needed. */
final class AnswerTest {
    private AnswerTest() {
    }

    static void run() {
        byHand();
        hints();
        needs();
        refusals();
        farthest();
    }

    /** Letters a, b, c; (a or b), (not a or c). */
    private static void byHand() {
        HiddenWorks x = new HiddenWorks();
        Check.wild(x, 0, 3, 3, 0, 4, 1);
        int[] firstBroken = {0, 1, -1, 1, 0, -1, -1, -1};
        for (int row = 0; row < 8; row++) {
            Check.due("solves " + row, x.solves(0, row), firstBroken[row]);
        }
        int[] solving = {2, 5, 6, 7};
        for (int i = 0; i < 4; i++) {
            Check.due("answer " + i, x.answer(0, i), solving[i]);
        }
        Check.due("no answer 4", x.answer(0, 4), -1);
        Check.due("no answer -1", x.answer(0, -1), -1);
        Check.due("all", x.answers(0, 0, 0), 4);
        Check.due("a true", x.answers(0, 1, 1), 2);
        Check.due("a false", x.answers(0, 1, 0), 2);
        Check.due("c false", x.answers(0, 4, 0), 1);
        Check.due("a, c false", x.answers(0, 5, 0), 1);
        Check.due("a true, c false", x.answers(0, 5, 1), 0);
        Check.due("one row", x.answers(0, 7, 6), 1);
        int[] nearest = {2, 5, 2, 2, 5, 5, 6, 7};
        for (int row = 0; row < 8; row++) {
            Check.due("nearest " + row, x.nearest(0, row), nearest[row]);
        }
    }

    private static void hints() {
        HiddenWorks x = new HiddenWorks();
        Check.wild(x, 0, 3, 3, 0, 4, 1);
        Check.due("just one has b true and c false, just one b false", x.hint(0), 2);
        Check.wild(x, 2, 2, 3, 0);
        Check.due("of like ones the least", x.hint(1), 0);
        Check.wild(x, 0, 2, 1, 0);
        Check.due("none has a false; b leaves one", x.hint(2), 2);
        Check.wild(x, 0, 1, 1, 0);
        Check.due("all are left", x.hint(3), 1);
        Check.wild(x, 0, 1, 1, 0, 0, 1);
        Check.due("nothing solves", x.hint(4), -1);
        Check.wild(x, 0, 2, 2, 1, 0, 1);
        Check.due("00, 10: b false is one", x.hint(5), 2);
        Check.wild(x, 0, 3, 1, 4, 2, 4);
        Check.due("5 answers, those with c true: 1; a false: 2", x.hint(6), 5);
    }

    private static void needs() {
        HiddenWorks x = new HiddenWorks();
        Check.wild(x, 0, 2, 1, 0, 3, 0, 0, 2);
        Check.due("a follows from the others, a or b from a", x.needed(0), 4);
        Check.wild(x, 0, 2, 1, 0, 1, 0);
        Check.due("twice the same: neither", x.needed(1), 0);
        Check.wild(x, 0, 2, 1, 0, 0, 1);
        Check.due("nothing solves, but without either", x.needed(2), 3);
        Check.wild(x, 0, 2);
        Check.due("no clauses", x.needed(3), 0);
        Check.wild(x, 3, 3, 7, 0);
        Check.due("one of three", x.needed(4), 1);
    }

    private static void refusals() {
        HiddenWorks x = new HiddenWorks();
        Check.due("solves", x.solves(0, -1), -5);
        Check.due("answers", x.answers(0, -1, 0), -5);
        Check.due("answer", x.answer(0, -1), -5);
        Check.due("nearest", x.nearest(0, -1), -5);
        Check.due("hint", x.hint(0), -5);
        Check.due("needed", x.needed(0), -5);
        Check.wild(x, 0, 3, 1, 0, 0, 1);
        Check.due("task below", x.hint(-1), -5);
        Check.due("answer below", x.solves(0, -1), -2);
        Check.due("answer above", x.solves(0, 8), -2);
        Check.due("the last answer", x.solves(0, 7), 1);
        Check.due("fixed above", x.answers(0, 8, 0), -2);
        Check.due("fixed below", x.answers(0, -1, 0), -2);
        Check.due("as not told", x.answers(0, 2, 1), -2);
        Check.due("as below", x.answers(0, 7, -1), -2);
        Check.due("as beyond", x.answers(0, 7, 8), -2);
        Check.due("row below, ahead of none", x.nearest(0, -1), -2);
        Check.due("row above, ahead of none", x.nearest(0, 8), -2);
        Check.due("none", x.nearest(0, 7), -1);
        Check.due("no answer", x.answer(0, 0), -1);
        Check.wild(x, 0, 10);
        Check.due("all rows of ten letters", x.answers(1, 0, 0), 1024);
        Check.due("the last one", x.answer(1, 1023), 1023);
        Check.due("beyond", x.solves(1, 1024), -2);
    }

    /** Ten letters, all of which have to be true. */
    private static void farthest() {
        HiddenWorks x = new HiddenWorks();
        int[] allTrue = new int[20];
        for (int l = 0; l < 10; l++) {
            allTrue[2 * l] = 1 << l;
        }
        Check.wild(x, 0, 10, allTrue);
        Check.due("unlike in all letters", x.nearest(0, 0), 1023);
        Check.due("unlike in nine", x.nearest(0, 1), 1023);
        Check.due("all are needed", x.needed(0), 1023);
    }
}
