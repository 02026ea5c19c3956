/** What the tests share: counting what is as due by the document's sentences, and telling a text to an object. */
final class Checks {
    static final int BAD = -1, NO = -2, FULL = -3, NONE = -4;
    static final int MIN = Integer.MIN_VALUE, MAX = Integer.MAX_VALUE;

    private int passed;
    private int failed;
    private String sentence = "";
    private boolean looked = true;

    /**
     * Begins the test of a sentence: the checks that follow are of it. SentencesTest looks whether the document's
     * section has these very words.
     */
    void sentence(String section, String words) {
        leaveSentence();
        sentence = section + " «" + words + "»: ";
        looked = false;
    }

    private void leaveSentence() {
        if (!looked) {
            failed++;
            System.out.println(sentence + "nothing is looked at");
        }
        looked = true;
    }

    void due(String call, long got, long want) {
        looked = true;
        if (got == want) {
            passed++;
            return;
        }
        failed++;
        System.out.println(sentence + call + " answered " + got + ", due is " + want);
    }

    void due(String what, boolean holds) {
        due(what, holds ? 1 : 0, 1);
    }

    /** Closes a test: CI reads the line, and the exit code. */
    void close() {
        leaveSentence();
        System.out.println(passed + " passed, " + failed + " failed");
        if (failed > 0 || passed == 0) {
            System.exit(1);
        }
    }

    /** Puts the text into THE TEXT in pieces of 8 bytes at most; what the last write answered. */
    static int tell(DoorsThatRemember x, String text) {
        int answer = 0;
        for (int from = 0; from < text.length(); from += 8) {
            String piece = text.substring(from, Math.min(text.length(), from + 8));
            answer = x.write(piece.length(), bytes(piece));
        }
        return answer;
    }

    /** The signs of the text as the lowest bytes of a number, the first one highest. */
    static long bytes(String text) {
        long v = 0;
        for (int k = 0; k < text.length(); k++) {
            v = v << 8 | text.charAt(k) & 255;
        }
        return v;
    }

    /** A new object with nothing but this as THE TEXT. */
    static DoorsThatRemember told(String text) {
        DoorsThatRemember x = new DoorsThatRemember();
        tell(x, text);
        return x;
    }

    static int faultOf(String text) {
        return told(text).fault();
    }

    static int layOf(String text) {
        return told(text).lay();
    }

    /** A new object, laid as the text tells. */
    static DoorsThatRemember house(String text) {
        DoorsThatRemember x = told(text);
        if (x.lay() < 1) {
            throw new IllegalStateException("not laid: " + text);
        }
        return x;
    }

    /** Numbers below and above all that are told. */
    static int[] outside(int low, int high) {
        return new int[] {MIN, low - 1, high + 1, high + 256, MAX};
    }
}
