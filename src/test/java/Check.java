/** Counts what the tests look at, and tells each answer that is not the one that is due. */
final class Check {
    private static int passed = 0;
    private static int failed = 0;
    private static String sentence = "";

    private Check() {
    }

    /** The sentence of the document by which the next answers are due. */
    static void by(String words) {
        sentence = "[" + words + "] ";
    }

    static void due(String call, long got, long want) {
        if (got == want) {
            passed++;
            return;
        }
        failed++;
        System.out.println(sentence + call + " answered " + got + ", due is " + want);
    }

    /** The closing line; exit code 1 if an answer was not as due. */
    static void end() {
        System.out.println(passed + " passed, " + failed + " failed");
        if (failed != 0 || passed == 0) System.exit(1);
    }

    static void feedAll(OneDidAll x, String text) {
        for (int i = 0; i < text.length(); i++) x.feed(text.charAt(i));
    }

    /** Feeds a text and has it read: what school() answers. */
    static int teach(OneDidAll x, String text) {
        feedAll(x, text);
        return x.school();
    }

    /** A new object with a class that holds. */
    static OneDidAll taught(String text) {
        OneDidAll x = new OneDidAll();
        if (teach(x, text) != 0) due("school() of a fault-free text " + text, -1, 0);
        return x;
    }
}
