/** Counts the answers of a test, and tells those that are not due. */
final class Check {
    private static int passed = 0;
    private static int failed = 0;

    private Check() {
    }

    static void due(String call, long got, long want) {
        if (got == want) {
            passed++;
            return;
        }
        failed++;
        if (failed <= 40) {
            System.out.println(call + " answered " + got + ", due is " + want);
        }
    }

    /** Two rows of answers, a line each; the first that differs is told. */
    static void same(String why, String got, String want) {
        if (got.equals(want)) {
            passed++;
            return;
        }
        failed++;
        String[] gotLines = got.split("\n");
        String[] wantLines = want.split("\n");
        for (int i = 0; i < gotLines.length && i < wantLines.length; i++) {
            if (!gotLines[i].equals(wantLines[i])) {
                System.out.println(why + ": " + gotLines[i] + ", due is " + wantLines[i]);
                return;
            }
        }
        System.out.println(why + ": " + gotLines.length + " answers, due are " + wantLines.length);
    }

    static void isTrue(String what, boolean holds) {
        due(what, holds ? 1 : 0, 1);
    }

    static void end() {
        System.out.println(passed + " passed, " + failed + " failed");
        if (failed != 0 || passed == 0) {
            System.exit(1);
        }
    }

    /** Types a text, eight bytes a call as far as they go. */
    static void type(HourRingers x, String text) {
        for (int from = 0; from < text.length(); from += 8) {
            int n = Math.min(8, text.length() - from);
            long v = 0;
            for (int i = 0; i < n; i++) {
                v = v << 8 | text.charAt(from + i) & 255;
            }
            x.type(v, n);
        }
    }

    static HourRingers told(String text) {
        HourRingers x = new HourRingers();
        type(x, text);
        int items = x.parish();
        if (items < 0) {
            throw new IllegalStateException(text + " is not a text: " + items);
        }
        return x;
    }

    /** What parish() answers to a text on a new object. */
    static int read(String text) {
        HourRingers x = new HourRingers();
        type(x, text);
        return x.parish();
    }
}
