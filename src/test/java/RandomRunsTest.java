import java.util.Random;

/** Runs of calls by seed, each answer held against the Model's. */
public final class RandomRunsTest {
    private static final int OBJECTS = 2000;
    // A text and a look at the whole house may come behind, and 512 are the most that count.
    private static final int CALLS = 380;
    private static final Checks is = new Checks();

    private final Random random;
    private final DoorsThatRemember x = new DoorsThatRemember();
    private final Model y = new Model();
    private final String seed;
    private int calls;

    private RandomRunsTest(int number) {
        random = new Random(number);
        seed = "seed " + number;
    }

    public static void main(String[] args) {
        for (int number = 0; number < OBJECTS; number++) {
            new RandomRunsTest(number).run();
        }
        is.close();
    }

    private void run() {
        int style = random.nextInt(6);
        if (style > 0) {
            say(text(style));
        }
        while (calls < CALLS) {
            int kind = random.nextInt(100);
            if (kind < 2) {
                say(text(random.nextInt(6)));
            } else if (kind < 5) {
                noise();
            } else {
                step(kind);
            }
        }
        wholeHouse();
    }

    private int upTo(int most) {
        return random.nextInt(most + 1);
    }

    /** Mostly a number that may be told, now and then one beyond. */
    private int near(int low, int high) {
        int k = random.nextInt(40);
        if (k == 0) {
            return low - 1;
        }
        if (k == 1) {
            return high + 1;
        }
        if (k == 2) {
            return random.nextInt();
        }
        return low + random.nextInt(high - low + 1);
    }

    private int aDoor() {
        return near(0, y.count(1) - 1);
    }

    private int aLodger() {
        return near(0, y.count(2) - 1);
    }

    private int aRoom() {
        return near(0, y.count(0) - 1);
    }

    private String text(int style) {
        StringBuilder t = new StringBuilder();
        int rooms = 2 + upTo(4);
        int doors = 1 + upTo(7);
        int lodgers = 1 + upTo(3);
        t.append('r').append(rooms).append(';');
        for (int d = 0; d < doors; d++) {
            int a = upTo(rooms - 1);
            int b = (a + 1 + upTo(rooms - 2)) % rooms;
            t.append('d').append(a).append(',').append(b).append(',').append(upTo(doors - 1)).append(';');
        }
        for (int i = 0; i < lodgers; i++) {
            t.append('l').append(upTo(rooms - 1)).append(',').append(1 + upTo(19)).append(',').append(upTo(rooms - 1)).append(';');
        }
        int most = style % 2 == 0 ? 12 : 99;
        for (int k = upTo(14); k > 0; k--) {
            t.append('g').append(upTo(doors - 1)).append(',').append(upTo(lodgers - 1)).append(',').append(upTo(most)).append(';');
        }
        if (random.nextBoolean()) {
            t.append('p').append(upTo(10)).append(',').append(upTo(style == 3 ? 9 : 2)).append(';');
        }
        if (random.nextBoolean()) {
            t.append('w').append(upTo(9)).append(';');
        }
        if (random.nextBoolean()) {
            t.append('o').append(1 + upTo(8)).append(';');
        }
        for (int k = upTo(3); k > 0; k--) {
            t.append('u').append(upTo(doors - 1)).append(',').append(upTo(20)).append(';');
        }
        return upTo(3) == 0 ? spoilt(t) : t.toString();
    }

    private String spoilt(StringBuilder t) {
        String signs = "0123456789,;rdlgpwou x";
        for (int k = upTo(2); k >= 0; k--) {
            int place = upTo(t.length() - 1);
            char sign = signs.charAt(upTo(signs.length() - 1));
            switch (upTo(2)) {
                case 0: t.setCharAt(place, sign); break;
                case 1: t.insert(place, sign); break;
                default: t.deleteCharAt(place); break;
            }
        }
        return t.toString();
    }

    private void due(String call, int got, int want) {
        calls++;
        is.due(seed + ": " + call, got, want);
    }

    private void say(String text) {
        if (upTo(5) > 0) {
            due("wipe", x.wipe(), y.wipe());
        }
        for (int from = 0; from < text.length(); ) {
            int n = Math.min(1 + upTo(7), text.length() - from);
            long v = random.nextLong();
            for (int k = 0; k < n; k++) {
                v = v << 8 | text.charAt(from + k);
            }
            due("write " + text, x.write(n, v), y.write(n, v));
            from += n;
        }
        due("fault " + text, x.fault(), y.fault());
        due("lay " + text, x.lay(), y.lay());
        wholeHouse();
    }

    private void noise() {
        int n = near(1, 8);
        long v = random.nextLong();
        due("write", x.write(n, v), y.write(n, v));
        due("fault", x.fault(), y.fault());
    }

    private void wholeHouse() {
        for (int what = -1; what <= 8; what++) {
            due("count " + what, x.count(what), y.count(what));
        }
        for (int d = -1; d <= 8; d++) {
            int what = upTo(5);
            int i = upTo(4);
            due("door " + d + " " + what, x.door(d, what), y.door(d, what));
            due("grudge " + d + " " + i, x.grudge(d, i), y.grudge(d, i));
        }
        for (int i = -1; i <= 4; i++) {
            int what = upTo(3);
            due("lodger " + i + " " + what, x.lodger(i, what), y.lodger(i, what));
        }
    }

    private void step(int kind) {
        if (kind < 45) {
            done(kind);
        } else if (kind < 70) {
            told();
        } else {
            asked();
        }
    }

    private void done(int kind) {
        int i = aLodger(), d = aDoor(), n = near(1, upTo(4) == 0 ? 60 : 3);
        boolean slams = random.nextBoolean();
        if (kind < 25) {
            due("go " + i + " " + d + " " + slams, x.go(i, d, slams), y.go(i, d, slams));
        } else if (kind < 31) {
            due("oil " + d, x.oil(d), y.oil(d));
        } else if (kind < 37) {
            due("night " + n, x.night(n), y.night(n));
        } else if (kind < 41) {
            due("undo", x.undo(), y.undo());
        } else if (kind < 43) {
            due("keep", x.keep(), y.keep());
        } else {
            due("back", x.back(), y.back());
        }
    }

    private void told() {
        int i = aLodger(), d = aDoor(), what = near(0, 4), c = near(0, 7);
        switch (upTo(3)) {
            case 0: due("door " + d + " " + what, x.door(d, what), y.door(d, what)); break;
            case 1: due("lodger " + i + " " + what, x.lodger(i, what), y.lodger(i, what)); break;
            case 2: due("grudge " + d + " " + i, x.grudge(d, i), y.grudge(d, i)); break;
            default: due("count " + c, x.count(c), y.count(c)); break;
        }
    }

    private void asked() {
        int i = aLodger(), d = aDoor(), a = aRoom(), b = aRoom(), what = near(0, 1);
        int n = near(0, upTo(2) == 0 ? 60 : 5), m = near(0, 60), k = near(0, 8), z = near(0, 9999);
        int g = near(1, upTo(2) == 0 ? 99 : 20), minutes = near(1, upTo(2) == 0 ? 100 : 20), r = near(-1, y.count(2) - 1);
        switch (upTo(9)) {
            case 0: due("way " + i + " " + a + " " + b, x.way(i, a, b), y.way(i, a, b)); break;
            case 1: due("first " + i + " " + a + " " + b, x.first(i, a, b), y.first(i, a, b)); break;
            case 2: due("inTime " + i + " " + m, x.inTime(i, m), y.inTime(i, m)); break;
            case 3: due("rooms " + r, x.rooms(r), y.rooms(r)); break;
            case 4: due("behind " + n + " " + d + " " + i, x.behind(n, d, i), y.behind(n, d, i)); break;
            case 5: due("worst " + n + " " + i, x.worst(n, i), y.worst(n, i)); break;
            case 6: due("stop " + n + " " + d + " " + i + " " + g, x.stop(n, d, i, g), y.stop(n, d, i, g)); break;
            case 7: due("how " + i + " " + d + " " + k + " " + minutes,
                x.how(i, d, k, minutes, what), y.how(i, d, k, minutes, what)); break;
            case 8: due("fresh " + d, x.fresh(d), y.fresh(d)); break;
            default: due("week " + z + " " + n + " " + what, x.week(z, n, what), y.week(z, n, what)); break;
        }
    }
}
