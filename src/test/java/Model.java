import java.util.ArrayDeque;
import java.util.ArrayList;
import java.util.Arrays;
import java.util.List;
import java.util.regex.Matcher;
import java.util.regex.Pattern;

/** The document once more, as slowly and as plainly as it reads, to be held against the class. */
final class Model {
    private static final int BAD = -1, NO = -2, FULL = -3, NONE = -4;
    private static final int NEVER = 1 << 20;

    /** A house: what is told of it and how it stands. */
    private static final class House implements Cloneable {
        int rooms = 3, tenths = 3, fade = 1, wear = 1, lasts = 2, minutes, nights;
        List<int[]> doors = new ArrayList<>();
        List<int[]> lodgers = new ArrayList<>();
        int[][] firstGrudge = new int[8][4];
        int[][] grudge = new int[8][4];
        int[] draught = new int[8];
        int[] oil = new int[8];
        int[] place = new int[4];

        House twin() {
            try {
                House h = (House) clone();
                h.grudge = new int[8][];
                for (int d = 0; d < 8; d++) {
                    h.grudge[d] = grudge[d].clone();
                }
                h.oil = oil.clone();
                h.place = place.clone();
                return h;
            } catch (CloneNotSupportedException e) {
                throw new IllegalStateException(e);
            }
        }
    }

    private StringBuilder text = new StringBuilder();
    private House h;
    private final ArrayDeque<House> undone = new ArrayDeque<>();
    private final ArrayDeque<House> kept = new ArrayDeque<>();

    Model() {
        h = new House();
        read("r3;d0,1,1;d1,2,0;l0,5,2;l2,3,0;", h);
        begin(h);
    }

    private static void begin(House x) {
        for (int i = 0; i < x.lodgers.size(); i++) {
            x.place[i] = x.lodgers.get(i)[0];
        }
        for (int d = 0; d < 8; d++) {
            x.grudge[d] = x.firstGrudge[d].clone();
        }
    }

    private static final Pattern ITEM = Pattern.compile("([a-z])([0-9]{1,2}(?:,[0-9]{1,2})*);");

    private static int read(String told, House x) {
        Matcher m = ITEM.matcher(told);
        int from = 0;
        while (from < told.length()) {
            if (!m.find(from) || m.start() != from) {
                return from;
            }
            int[] v = Arrays.stream(m.group(2).split(",")).mapToInt(Integer::parseInt).toArray();
            if (!item(m.group(1).charAt(0), v, x)) {
                return from;
            }
            from = m.end();
        }
        return NONE;
    }

    private static boolean item(char letter, int[] v, House x) {
        int want = "rwo".indexOf(letter) >= 0 ? 1 : "pu".indexOf(letter) >= 0 ? 2 : "dlg".indexOf(letter) >= 0 ? 3 : 0;
        if (want != v.length) {
            return false;
        }
        if (letter == 'r' && x.doors.isEmpty() && v[0] > 1 && v[0] < 7) {
            x.rooms = v[0];
        } else if (letter == 'd' && x.doors.size() < 8 && v[0] != v[1] && Math.max(v[0], v[1]) < x.rooms && v[2] < 8) {
            x.doors.add(v);
        } else if (letter == 'l' && x.lodgers.size() < 4 && v[0] < 6 && v[1] > 0 && v[1] < 21 && v[2] < 6) {
            x.lodgers.add(v);
        } else if (letter == 'g' && v[0] < x.doors.size() && v[1] < x.lodgers.size()) {
            x.firstGrudge[v[0]][v[1]] = v[2];
        } else if (letter == 'p' && v[0] < 11 && v[1] < 10) {
            x.tenths = v[0];
            x.fade = v[1];
        } else if (letter == 'w' && v[0] < 10) {
            x.wear = v[0];
        } else if (letter == 'o' && v[0] > 0 && v[0] < 10) {
            x.lasts = v[0];
        } else if (letter == 'u' && v[0] < x.doors.size() && v[1] < 21) {
            x.draught[v[0]] = v[1];
        } else {
            return false;
        }
        return true;
    }

    private boolean noDoor(int d) {
        return d < 0 || d >= h.doors.size();
    }

    private boolean noLodger(int i) {
        return i < 0 || i >= h.lodgers.size();
    }

    private boolean noRoom(int r) {
        return r < 0 || r >= h.rooms;
    }

    private static boolean out(int v, int low, int high) {
        return v < low || v > high;
    }

    int write(int n, long v) {
        if (out(n, 1, 8)) {
            return BAD;
        }
        if (text.length() + n > 300) {
            return FULL;
        }
        String hex = String.format("%016x", v);
        for (int k = 8 - n; k < 8; k++) {
            text.append((char) Integer.parseInt(hex.substring(2 * k, 2 * k + 2), 16));
        }
        return text.length();
    }

    int wipe() {
        int was = text.length();
        text = new StringBuilder();
        return was;
    }

    int fault() {
        return read(text.toString(), new House());
    }

    int lay() {
        House x = new House();
        if (read(text.toString(), x) != NONE || x.doors.isEmpty() || x.lodgers.isEmpty()) {
            return NO;
        }
        for (int[] d : x.doors) {
            if (d[2] >= x.doors.size()) {
                return NO;
            }
        }
        for (int[] l : x.lodgers) {
            if (l[0] >= x.rooms || l[2] >= x.rooms) {
                return NO;
            }
        }
        begin(x);
        h = x;
        undone.clear();
        kept.clear();
        return x.doors.size();
    }

    int door(int d, int what) {
        if (noDoor(d) || out(what, 0, 4)) {
            return BAD;
        }
        return what < 3 ? h.doors.get(d)[what] : what == 3 ? h.oil[d] : h.draught[d];
    }

    int lodger(int i, int what) {
        if (noLodger(i) || out(what, 0, 2)) {
            return BAD;
        }
        return what == 0 ? h.place[i] : h.lodgers.get(i)[what];
    }

    int grudge(int d, int i) {
        return noDoor(d) || noLodger(i) ? BAD : h.grudge[d][i];
    }

    private void did() {
        undone.push(h.twin());
        if (undone.size() > 8) {
            undone.removeLast();
        }
    }

    private static int cost(House x, int d, int i) {
        return x.oil[d] > 0 ? 1 : 1 + x.grudge[d][i];
    }

    private static void pass(House x, int i, int d, boolean slams) {
        x.minutes += cost(x, d, i);
        int[] door = x.doors.get(d);
        x.place[i] = door[0] + door[1] - x.place[i];
        x.grudge[d][i] = slams
            ? Math.min(99, x.grudge[d][i] + x.lodgers.get(i)[1])
            : Math.max(0, x.grudge[d][i] - x.wear);
    }

    int go(int i, int d, boolean slams) {
        if (noLodger(i) || noDoor(d)) {
            return BAD;
        }
        if (h.doors.get(d)[0] != h.place[i] && h.doors.get(d)[1] != h.place[i]) {
            return NO;
        }
        did();
        int ahead = h.minutes;
        pass(h, i, d, slams);
        return h.minutes - ahead;
    }

    int oil(int d) {
        if (noDoor(d)) {
            return BAD;
        }
        did();
        h.oil[d] = h.lasts;
        return (int) Arrays.stream(h.oil).filter(k -> k > 0).count();
    }

    private static void sleep(House x) {
        int n = x.doors.size();
        int[][] was = x.twin().grudge;
        for (int i = 0; i < x.lodgers.size(); i++) {
            for (int d = 0; d < n; d++) {
                int to = x.doors.get(d)[2];
                if (to != d && x.oil[d] == 0 && x.oil[to] == 0) {
                    x.grudge[d][i] -= was[d][i] * x.tenths / 10;
                    x.grudge[to][i] += was[d][i] * x.tenths / 10;
                }
            }
            for (int d = 0; d < n; d++) {
                int g = Math.max(0, x.grudge[d][i] - x.fade) + x.draught[d];
                x.grudge[d][i] = Math.min(99, g);
            }
        }
        for (int d = 0; d < n; d++) {
            x.oil[d] = Math.max(0, x.oil[d] - 1);
        }
        x.nights++;
    }

    int night(int n) {
        if (out(n, 1, 60)) {
            return BAD;
        }
        if (h.nights + n > 9999) {
            return NO;
        }
        did();
        for (int k = 0; k < n; k++) {
            sleep(h);
        }
        return h.nights;
    }

    int undo() {
        if (undone.isEmpty()) {
            return NO;
        }
        h = undone.pop();
        return undone.size();
    }

    /** All simple ways are walked. */
    private static int least(House x, int i, int a, int b, int set, int seen) {
        if (a == b) {
            return 0;
        }
        int best = NEVER;
        for (int d = 0; d < x.doors.size(); d++) {
            int[] door = x.doors.get(d);
            if (door[0] != a && door[1] != a) {
                continue;
            }
            int to = door[0] + door[1] - a;
            if ((seen >> to & 1) == 0) {
                int c = (set >> d & 1) == 1 ? 1 : cost(x, d, i);
                best = Math.min(best, c + least(x, i, to, b, set, seen | 1 << to));
            }
        }
        return best;
    }

    private static int least(House x, int i, int a, int b) {
        return least(x, i, a, b, 0, 1 << a);
    }

    private static int firstDoor(House x, int i, int a, int b) {
        int best = least(x, i, a, b);
        if (best == 0 || best >= NEVER) {
            return NONE;
        }
        for (int d = 0; d < x.doors.size(); d++) {
            int[] door = x.doors.get(d);
            if (door[0] != a && door[1] != a) {
                continue;
            }
            if (cost(x, d, i) + least(x, i, door[0] + door[1] - a, b) == best) {
                return d;
            }
        }
        throw new IllegalStateException();
    }

    int way(int i, int a, int b) {
        if (noLodger(i) || noRoom(a) || noRoom(b)) {
            return BAD;
        }
        int best = least(h, i, a, b);
        return best >= NEVER ? NONE : best;
    }

    int first(int i, int a, int b) {
        return noLodger(i) || noRoom(a) || noRoom(b) ? BAD : firstDoor(h, i, a, b);
    }

    private static boolean better(int set, int than) {
        int a = Integer.bitCount(set), b = Integer.bitCount(than);
        return than < 0 || a < b || a == b && set < than;
    }

    int inTime(int i, int m) {
        if (noLodger(i) || out(m, 0, 600)) {
            return BAD;
        }
        int best = NONE;
        for (int set = (1 << h.doors.size()) - 1; set >= 0; set--) {
            int a = h.place[i], b = h.lodgers.get(i)[2];
            if (better(set, best) && least(h, i, a, b, set, 1 << a) <= m) {
                best = set;
            }
        }
        return best;
    }

    private void seat(int i, int sum, int[] rooms, int[] best) {
        int n = h.lodgers.size();
        if (i == n) {
            if (sum < best[n]) {
                System.arraycopy(rooms, 0, best, 0, n);
                best[n] = sum;
            }
            return;
        }
        for (int r = 0; r < h.rooms; r++) {
            boolean free = true;
            for (int k = 0; k < i; k++) {
                free &= rooms[k] != r;
            }
            int c = least(h, i, r, h.lodgers.get(i)[2]);
            if (free && c < NEVER) {
                rooms[i] = r;
                seat(i + 1, sum + c, rooms, best);
            }
        }
    }

    int rooms(int i) {
        int n = h.lodgers.size();
        if (out(i, -1, n - 1)) {
            return BAD;
        }
        int[] best = new int[n + 1];
        best[n] = NEVER;
        seat(0, 0, new int[n], best);
        return best[n] == NEVER ? NONE : i < 0 ? best[n] : best[i];
    }

    private House later(int n, int set) {
        House x = h.twin();
        for (int d = 0; d < 8; d++) {
            x.oil[d] = (set >> d & 1) == 1 ? 1000 : x.oil[d];
        }
        for (int k = 0; k < n; k++) {
            sleep(x);
        }
        return x;
    }

    int behind(int n, int d, int i) {
        return out(n, 0, 60) || noDoor(d) || noLodger(i) ? BAD : later(n, 0).grudge[d][i];
    }

    int worst(int n, int i) {
        if (out(n, 0, 60) || noLodger(i)) {
            return BAD;
        }
        House x = later(n, 0);
        int worst = h.doors.size() - 1;
        for (int d = worst; d >= 0; d--) {
            worst = x.grudge[d][i] >= x.grudge[worst][i] ? d : worst;
        }
        return worst;
    }

    int stop(int n, int d, int i, int g) {
        if (out(n, 0, 60) || noDoor(d) || noLodger(i) || out(g, 1, 99)) {
            return BAD;
        }
        int best = NONE;
        for (int set = 0; set < 1 << h.doors.size(); set++) {
            if ((set >> d & 1) == 0 && better(set, best) && later(n, set).grudge[d][i] < g) {
                best = set;
            }
        }
        return best;
    }

    private void tries(int i, int grudge, int[] left, int m, int slams, int[] found) {
        if (left[0] == 0) {
            if (1 + grudge == m) {
                found[0]++;
                found[1] = Math.min(found[1], slams);
            }
            return;
        }
        left[0]--;
        tries(i, Math.max(0, grudge - h.wear), left, m, slams, found);
        tries(i, Math.min(99, grudge + h.lodgers.get(i)[1]), left, m, slams + 1, found);
        left[0]++;
    }

    int how(int i, int d, int k, int m, int what) {
        if (noLodger(i) || noDoor(d) || out(k, 0, 8) || out(m, 1, 100) || out(what, 0, 1)) {
            return BAD;
        }
        int[] found = {0, 99};
        tries(i, h.firstGrudge[d][i], new int[] {k}, m, 0, found);
        return what == 0 ? found[0] : found[0] == 0 ? NONE : found[1];
    }

    int fresh(int d) {
        int n = h.doors.size();
        if (out(d, -1, n - 1)) {
            return BAD;
        }
        if (d >= 0) {
            return Arrays.stream(h.grudge[d]).sum() / h.lodgers.size();
        }
        int least = n - 1;
        for (int k = n - 1; k >= 0; k--) {
            least = fresh(k) <= fresh(least) ? k : least;
        }
        return least;
    }

    private static void leg(House x, int i, int to, boolean slams) {
        int d = firstDoor(x, i, x.place[i], to);
        while (d >= 0) {
            pass(x, i, d, slams);
            d = firstDoor(x, i, x.place[i], to);
        }
    }

    int week(int z, int n, int what) {
        if (out(z, 0, 9999) || out(n, 1, 60) || out(what, 0, 1)) {
            return BAD;
        }
        House x = h.twin();
        for (long k = 0; k < n; k++) {
            long draw = (7919L * z + 6151 * k + 1) % 65521;
            draw = draw * draw % 65521;
            int i = (int) (draw % x.lodgers.size());
            int home = x.place[i];
            boolean slams = draw / 8 % 2 != 0;
            leg(x, i, x.lodgers.get(i)[2], slams);
            leg(x, i, home, slams);
            sleep(x);
        }
        return what == 0 ? x.minutes - h.minutes : Arrays.stream(x.grudge).flatMapToInt(Arrays::stream).sum();
    }

    int keep() {
        if (kept.size() == 2) {
            return FULL;
        }
        kept.push(h.twin());
        return kept.size();
    }

    int back() {
        if (kept.isEmpty()) {
            return NO;
        }
        h = kept.pop();
        undone.clear();
        return kept.size();
    }

    int count(int what) {
        int[] counts = {h.rooms, h.doors.size(), h.lodgers.size(), h.minutes, h.nights, undone.size(), kept.size(),
            text.length()};
        return out(what, 0, 7) ? BAD : counts[what];
    }
}
