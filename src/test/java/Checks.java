/** What the tests share: counting what is as due, and telling a text to an object. */
final class Checks {
    private int passed;
    private int failed;

    void due(String call, long got, long want) {
        if (got == want) {
            passed++;
            return;
        }
        failed++;
        System.out.println(call + " answered " + got + ", due is " + want);
    }

    void due(String what, boolean holds) {
        due(what, holds ? 1 : 0, 1);
    }

    /** Closes a test: CI reads the line, and the exit code. */
    void close() {
        System.out.println(passed + " passed, " + failed + " failed");
        if (failed > 0 || passed == 0) {
            System.exit(1);
        }
    }

    /** Puts the text into THE TEXT in pieces of 8 bytes at most; what the last write answered. */
    static int tell(DoorsThatRemember x, String text) {
        int answer = 0;
        for (int from = 0; from < text.length(); from += 8) {
            int n = Math.min(8, text.length() - from);
            long v = 0;
            for (int k = 0; k < n; k++) {
                v = v << 8 | text.charAt(from + k) & 255;
            }
            answer = x.write(n, v);
        }
        return answer;
    }

    /** A new object, laid as the text tells. */
    static DoorsThatRemember house(String text) {
        DoorsThatRemember x = new DoorsThatRemember();
        tell(x, text);
        if (x.lay() < 1) {
            throw new IllegalStateException("not laid: " + text);
        }
        return x;
    }
}
