/** What the tests share: counting what is due, and feeding texts. */
final class Checks {
    private int right = 0;
    private int wrong = 0;
    private int held = 0;
    private int broken = 0;

    void due(String what, long got, long want) {
        if (got == want) {
            right++;
            return;
        }
        wrong++;
        if (wrong <= 40) System.out.println("WRONG " + what + ": got " + got + ", due is " + want);
    }

    void due(String what, boolean got, boolean want) {
        due(what, got ? 1 : 0, want ? 1 : 0);
    }

    /** A sentence of the document in its own words, and the test that it has for itself. */
    void sentence(String words, Runnable test) {
        int rightBefore = right;
        int wrongBefore = wrong;
        try {
            test.run();
        } catch (RuntimeException e) {
            due("no throw, but " + e + " came", false, true);
        }
        if (wrong == wrongBefore && right > rightBefore) {
            held++;
            return;
        }
        broken++;
        System.out.println("BROKEN: " + words);
    }

    void end() {
        if (held + broken > 0) System.out.println(held + " sentences held, " + broken + " broken");
        System.out.println(right + " passed, " + wrong + " failed");
        if (wrong != 0 || broken != 0 || right == 0) System.exit(1);
    }

    /** Four signs from a place on as one int, zeros where the text has none. */
    static int word(String text, int from) {
        int word = 0;
        for (int k = from; k < from + 4; k++) word = word << 8 | (k < text.length() ? text.charAt(k) : 0);
        return word;
    }

    static void feed(RangeReckoner x, String text) {
        for (int k = 0; k < text.length(); k += 8) {
            int length = x.feed(word(text, k), word(text, k + 4));
            if (length == RangeReckoner.NONE) throw new IllegalArgumentException("can't be fed: " + text);
        }
    }

    static int take(RangeReckoner x, String text) {
        feed(x, text);
        return x.take();
    }
}
