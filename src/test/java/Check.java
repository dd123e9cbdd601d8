/** Counts answers that are as due, prints those that aren't, and feeds an object by texts and rows. */
final class Check {
    static int passed = 0, failed = 0;
    private static String place = "", printed = "";

    private Check() {
    }

    /** What is checked from now on belongs to; it is printed once, ahead of what isn't as due. */
    static void under(String words) {
        place = words;
    }

    static void due(String call, long got, long want) {
        if (got == want) {
            passed++;
        } else {
            failed++;
            if (!place.equals(printed)) {
                System.out.println("-- " + place);
                printed = place;
            }
            System.out.println(call + " answered " + got + ", due is " + want);
        }
    }

    static void due(String call, boolean stands) {
        due(call, stands ? 1 : 0, 1);
    }

    /** Feeds a text, eight bytes at most a call; answers what the last call did. */
    static int feed(HiddenWorks x, String text) {
        int last = 0;
        for (int i = 0; i < text.length(); i += 8) {
            int n = Math.min(8, text.length() - i);
            last = x.feed(packed(text.substring(i, i + n)), n);
        }
        return last;
    }

    static long packed(String text) {
        long w = 0;
        for (int i = 0; i < text.length(); i++) {
            w = w << 8 | text.charAt(i) & 255;
        }
        return w;
    }

    static int recipe(HiddenWorks x, String text) {
        feed(x, text);
        return x.recipe();
    }

    static void sheet(HiddenWorks x, int s, int sort, int... cells) {
        x.sheet(s, sort, cells.length);
        for (int i = 0; i < cells.length; i++) {
            x.cell(s, i, cells[i]);
        }
    }

    /** A wild task by sheet 3: plain and against, two by two. */
    static int wild(HiddenWorks x, int kind, int letters, int... cells) {
        sheet(x, 3, 2, cells);
        return x.wild(kind, letters, 3);
    }
}
