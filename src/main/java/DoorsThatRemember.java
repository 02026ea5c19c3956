/** A boarding-house whose doors stick for whoever slammed them; the document tells what each call answers. */
public final class DoorsThatRemember {
    public static final int BAD = -1, NO = -2, FULL = -3, NONE = -4;

    private static final int MOST_BYTES = 300;
    private static final int MOST_NUMBERS = 3;
    private static final int MOST_ROOMS = 6;
    private static final int MOST_DOORS = 8;
    private static final int MOST_LODGERS = 4;
    private static final int MOST_GRUDGE = 99;
    private static final int MOST_TEMPER = 20;
    private static final int MOST_DRAUGHT = 20;
    private static final int MOST_NIGHTS = 9999;
    private static final int NIGHTS_AT_ONCE = 60;
    private static final int MOST_UNDONE = 8;
    private static final int MOST_KEPT = 2;
    private static final int MOST_TIMES = 8;
    // Far above the dearest way there can be (5 doors of 100 minutes each).
    private static final int FAR = 1000000;

    private final Text text = new Text();
    private final House now = new House();
    private final House trial = new House();
    private final Past undone = new Past(MOST_UNDONE);
    private final Past kept = new Past(MOST_KEPT);
    private final Ways ways = new Ways();
    private final Rooming rooming = new Rooming();
    private Plan plan = new Plan();
    private Plan draft = new Plan();

    public DoorsThatRemember() {
        plan.addDoor(0, 1, 1);
        plan.addDoor(1, 2, 0);
        plan.addLodger(0, 5, 2);
        plan.addLodger(2, 3, 0);
        now.beginAs(plan);
    }

    // ---- houses

    public int write(int n, long v) {
        if (!within(n, 1, 8)) {
            return BAD;
        }
        if (text.length + n > MOST_BYTES) {
            return FULL;
        }
        for (int k = n - 1; k >= 0; k--) {
            text.append((int) (v >>> (8 * k)) & 255);
        }
        return text.length;
    }

    public int wipe() {
        int was = text.length;
        text.length = 0;
        return was;
    }

    public int fault() {
        return text.readInto(draft);
    }

    public int lay() {
        if (text.readInto(draft) != NONE || !draft.canStand()) {
            return NO;
        }
        Plan laid = draft;
        draft = plan;
        plan = laid;
        now.beginAs(plan);
        undone.forgetAll();
        kept.forgetAll();
        return plan.doorCount;
    }

    public int door(int d, int what) {
        if (!isDoor(d)) {
            return BAD;
        }
        switch (what) {
            case 0: return at(plan.sideA, d);
            case 1: return at(plan.sideB, d);
            case 2: return at(plan.passTo, d);
            case 3: return at(now.oilLeft, d);
            case 4: return at(plan.draught, d);
            default: return BAD;
        }
    }

    public int lodger(int i, int what) {
        if (!isLodger(i)) {
            return BAD;
        }
        switch (what) {
            case 0: return at(now.place, i);
            case 1: return at(plan.temper, i);
            case 2: return at(plan.goal, i);
            default: return BAD;
        }
    }

    public int grudge(int d, int i) {
        return isDoor(d) && isLodger(i) ? now.grudgeOf(d, i) : BAD;
    }

    // ---- what is done

    public int go(int i, int d, boolean slams) {
        if (!isLodger(i) || !isDoor(d)) {
            return BAD;
        }
        if (plan.otherSide(d, at(now.place, i)) < 0) {
            return NO;
        }
        undone.push(now);
        return now.passThrough(plan, i, d, slams);
    }

    public int oil(int d) {
        if (!isDoor(d)) {
            return BAD;
        }
        undone.push(now);
        put(now.oilLeft, d, plan.oilLasts);
        return now.oiledDoors();
    }

    public int night(int n) {
        if (!within(n, 1, NIGHTS_AT_ONCE)) {
            return BAD;
        }
        if (now.nights + n > MOST_NIGHTS) {
            return NO;
        }
        undone.push(now);
        for (int k = 0; k < n; k++) {
            now.sleep(plan);
        }
        return now.nights;
    }

    public int undo() {
        return undone.pop(now) ? undone.size : NO;
    }

    // ---- ways

    public int way(int i, int a, int b) {
        if (!isLodger(i) || !isRoom(a) || !isRoom(b)) {
            return BAD;
        }
        ways.measure(plan, now, i, b, 0);
        return ways.minutesFrom(a);
    }

    public int first(int i, int a, int b) {
        if (!isLodger(i) || !isRoom(a) || !isRoom(b)) {
            return BAD;
        }
        ways.measure(plan, now, i, b, 0);
        return ways.lowestDoorFrom(plan, a);
    }

    public int inTime(int i, int m) {
        if (!isLodger(i) || !within(m, 0, 600)) {
            return BAD;
        }
        int sets = 1 << plan.doorCount;
        for (int size = 0; size <= plan.doorCount; size++) {
            for (int set = 0; set < sets; set++) {
                if (Integer.bitCount(set) == size && isInTimeWith(set, i, m)) {
                    return set;
                }
            }
        }
        return NONE;
    }

    public int rooms(int i) {
        if (i != -1 && !isLodger(i)) {
            return BAD;
        }
        rooming.measure(plan, now, ways);
        int best = rooming.bestCode();
        if (best < 0) {
            return NONE;
        }
        return i < 0 ? rooming.sumOf(best) : rooming.roomIn(best, i);
    }

    // ---- nights

    public int behind(int n, int d, int i) {
        if (!within(n, 0, NIGHTS_AT_ONCE) || !isDoor(d) || !isLodger(i)) {
            return BAD;
        }
        trial.become(now);
        trial.sleepAgainstOne(plan, n, i);
        return trial.grudgeOf(d, i);
    }

    public int worst(int n, int i) {
        if (!within(n, 0, NIGHTS_AT_ONCE) || !isLodger(i)) {
            return BAD;
        }
        trial.become(now);
        trial.sleepAgainstOne(plan, n, i);
        int worst = 0;
        for (int d = 1; d < plan.doorCount; d++) {
            if (trial.grudgeOf(d, i) > trial.grudgeOf(worst, i)) {
                worst = d;
            }
        }
        return worst;
    }

    public int stop(int n, int d, int i, int g) {
        if (!within(n, 0, NIGHTS_AT_ONCE) || !isDoor(d) || !isLodger(i) || !within(g, 1, MOST_GRUDGE)) {
            return BAD;
        }
        int sets = 1 << plan.doorCount;
        for (int size = 0; size < plan.doorCount; size++) {
            for (int set = 0; set < sets; set++) {
                boolean fits = Integer.bitCount(set) == size && !holds(set, d);
                if (fits && grudgeBehindWith(set, n, d, i) < g) {
                    return set;
                }
            }
        }
        return NONE;
    }

    // ---- who slammed, new ones, weeks

    public int how(int i, int d, int k, int m, int what) {
        boolean told = within(k, 0, MOST_TIMES) && within(m, 1, MOST_GRUDGE + 1) && within(what, 0, 1);
        if (!isLodger(i) || !isDoor(d) || !told) {
            return BAD;
        }
        int found = 0;
        int fewest = MOST_TIMES + 1;
        for (int slams = 0; slams < 1 << k; slams++) {
            if (1 + plan.grudgeAfter(d, i, k, slams) == m) {
                found++;
                fewest = Math.min(fewest, Integer.bitCount(slams));
            }
        }
        if (what == 0) {
            return found;
        }
        return found > 0 ? fewest : NONE;
    }

    public int fresh(int d) {
        if (d != -1 && !isDoor(d)) {
            return BAD;
        }
        if (d >= 0) {
            return grudgeAgainstNew(d);
        }
        int least = 0;
        for (int k = 1; k < plan.doorCount; k++) {
            if (grudgeAgainstNew(k) < grudgeAgainstNew(least)) {
                least = k;
            }
        }
        return least;
    }

    public int week(int z, int n, int what) {
        if (!within(z, 0, 9999) || !within(n, 1, NIGHTS_AT_ONCE) || !within(what, 0, 1)) {
            return BAD;
        }
        trial.become(now);
        for (int k = 0; k < n; k++) {
            long x = 7919L * z + 6151L * k + 1L;
            goThereAndBack((int) (x * x % 65521L));
            trial.sleep(plan);
        }
        return what == 0 ? trial.minutes - now.minutes : trial.allGrudges(plan);
    }

    public int keep() {
        if (kept.size >= MOST_KEPT) {
            return FULL;
        }
        kept.push(now);
        return kept.size;
    }

    public int back() {
        if (!kept.pop(now)) {
            return NO;
        }
        undone.forgetAll();
        return kept.size;
    }

    public int count(int what) {
        switch (what) {
            case 0: return plan.roomCount;
            case 1: return plan.doorCount;
            case 2: return plan.lodgerCount;
            case 3: return now.minutes;
            case 4: return now.nights;
            case 5: return undone.size;
            case 6: return kept.size;
            case 7: return text.length;
            default: return BAD;
        }
    }

    // ---- what the calls lean on

    private boolean isRoom(int room) {
        return room >= 0 && room < plan.roomCount;
    }

    private boolean isDoor(int d) {
        return d >= 0 && d < plan.doorCount;
    }

    private boolean isLodger(int i) {
        return i >= 0 && i < plan.lodgerCount;
    }

    private boolean isInTimeWith(int set, int i, int m) {
        ways.measure(plan, now, i, at(plan.goal, i), set);
        int minutes = ways.minutesFrom(at(now.place, i));
        return minutes >= 0 && minutes <= m;
    }

    private int grudgeBehindWith(int set, int n, int d, int i) {
        trial.become(now);
        for (int k = 0; k < plan.doorCount; k++) {
            if (holds(set, k)) {
                put(trial.oilLeft, k, n + 1);
            }
        }
        trial.sleepAgainstOne(plan, n, i);
        return trial.grudgeOf(d, i);
    }

    private int grudgeAgainstNew(int d) {
        return plan.lodgerCount > 0 ? now.grudgesOfDoor(plan, d) / plan.lodgerCount : 0;
    }

    private void goThereAndBack(int draw) {
        if (plan.lodgerCount < 1) {
            return;
        }
        int i = draw % plan.lodgerCount;
        boolean slams = draw / 8 % 2 == 1;
        int home = at(trial.place, i);
        goTo(i, at(plan.goal, i), slams);
        goTo(i, home, slams);
    }

    /** Each door on the way brings him nearer, whatever it remembers of him then, so he comes into no room twice. */
    private void goTo(int i, int room, boolean slams) {
        for (int step = 0; step < MOST_ROOMS; step++) {
            ways.measure(plan, trial, i, room, 0);
            int d = ways.lowestDoorFrom(plan, at(trial.place, i));
            if (d < 0) {
                return;
            }
            trial.passThrough(plan, i, d, slams);
        }
    }

    private static boolean within(int number, int low, int high) {
        return number >= low && number <= high;
    }

    private static boolean holds(int set, int d) {
        return (set >> d & 1) == 1;
    }

    private static int at(int[] row, int k) {
        return k >= 0 && k < row.length ? row[k] : 0;
    }

    private static void put(int[] row, int k, int number) {
        if (k >= 0 && k < row.length) {
            row[k] = number;
        }
    }

    private static void fill(int[] row, int number) {
        for (int k = 0; k < row.length; k++) {
            row[k] = number;
        }
    }

    private static void copy(int[] from, int[] to) {
        for (int k = 0; k < from.length && k < to.length; k++) {
            to[k] = from[k];
        }
    }

    private static int worn(int grudge, int wear) {
        return Math.max(0, grudge - wear);
    }

    private static int grown(int grudge, int more) {
        return Math.min(MOST_GRUDGE, grudge + more);
    }

    /** THE TEXT, and the numbers of the item that was read last. */
    private static final class Text {
        private final int[] bytes = new int[MOST_BYTES];
        private final int[] numbers = new int[MOST_NUMBERS];
        private int told;
        private int length;

        void append(int oneByte) {
            if (length < MOST_BYTES) {
                put(bytes, length, oneByte);
                length++;
            }
        }

        /** Where the first faulty item begins, or NONE; the plan is then what the text tells. */
        int readInto(Plan plan) {
            plan.clear();
            int from = 0;
            for (int items = 0; items < MOST_BYTES && from < length; items++) {
                int behind = scanItem(from);
                if (behind < 0 || !plan.take(byteAt(from), told, numbers)) {
                    return from;
                }
                from = behind;
            }
            return NONE;
        }

        /** The place behind the item that begins here, or -1 if its numbers and marks are not as they should be. */
        private int scanItem(int from) {
            int place = from + 1;
            for (int k = 0; k < MOST_NUMBERS; k++) {
                int figures = figuresAt(place);
                if (figures == 0) {
                    return -1;
                }
                put(numbers, k, numberAt(place, figures));
                told = k + 1;
                int mark = byteAt(place + figures);
                place += figures + 1;
                if (mark == ';') {
                    return place;
                }
                if (mark != ',') {
                    return -1;
                }
            }
            return -1;
        }

        /** Two at most: a third one then stands where a mark has to be. */
        private int figuresAt(int place) {
            if (!isFigure(place)) {
                return 0;
            }
            return isFigure(place + 1) ? 2 : 1;
        }

        private int numberAt(int place, int figures) {
            int number = byteAt(place) - '0';
            return figures == 2 ? number * 10 + byteAt(place + 1) - '0' : number;
        }

        private int byteAt(int place) {
            return place < length ? at(bytes, place) : -1;
        }

        private boolean isFigure(int place) {
            return within(byteAt(place), '0', '9');
        }
    }

    /** What a text tells of a house, and what nothing done in it changes. */
    private static final class Plan {
        private final int[] sideA = new int[MOST_DOORS];
        private final int[] sideB = new int[MOST_DOORS];
        private final int[] passTo = new int[MOST_DOORS];
        private final int[] draught = new int[MOST_DOORS];
        private final int[] home = new int[MOST_LODGERS];
        private final int[] temper = new int[MOST_LODGERS];
        private final int[] goal = new int[MOST_LODGERS];
        private final int[] firstGrudges = new int[MOST_LODGERS * MOST_DOORS];
        private int roomCount = 3;
        private int doorCount;
        private int lodgerCount;
        private int tenths = 3;
        private int fade = 1;
        private int wear = 1;
        private int oilLasts = 2;

        void clear() {
            fill(draught, 0);
            fill(firstGrudges, 0);
            roomCount = 3;
            doorCount = 0;
            lodgerCount = 0;
            tenths = 3;
            fade = 1;
            wear = 1;
            oilLasts = 2;
        }

        void addDoor(int a, int b, int x) {
            put(sideA, doorCount, a);
            put(sideB, doorCount, b);
            put(passTo, doorCount, x);
            doorCount++;
        }

        void addLodger(int room, int anger, int to) {
            put(home, lodgerCount, room);
            put(temper, lodgerCount, anger);
            put(goal, lodgerCount, to);
            lodgerCount++;
        }

        /** Takes in what one item tells; false if it may not be told so here. */
        boolean take(int letter, int told, int[] numbers) {
            int a = at(numbers, 0);
            int b = at(numbers, 1);
            int c = at(numbers, 2);
            switch (letter) {
                case 'r': return told == 1 && takeRooms(a);
                case 'd': return told == 3 && takeDoor(a, b, c);
                case 'l': return told == 3 && takeLodger(a, b, c);
                case 'g': return told == 3 && takeGrudge(a, b, c);
                case 'p': return told == 2 && takePassing(a, b);
                case 'w': return told == 1 && takeWear(a);
                case 'o': return told == 1 && takeOil(a);
                case 'u': return told == 2 && takeDraught(a, b);
                default: return false;
            }
        }

        private boolean takeRooms(int n) {
            if (doorCount > 0 || !within(n, 2, MOST_ROOMS)) {
                return false;
            }
            roomCount = n;
            return true;
        }

        private boolean takeDoor(int a, int b, int x) {
            boolean fits = a != b && a < roomCount && b < roomCount && x < MOST_DOORS;
            if (doorCount >= MOST_DOORS || !fits) {
                return false;
            }
            addDoor(a, b, x);
            return true;
        }

        private boolean takeLodger(int room, int anger, int to) {
            boolean fits = room < MOST_ROOMS && within(anger, 1, MOST_TEMPER) && to < MOST_ROOMS;
            if (lodgerCount >= MOST_LODGERS || !fits) {
                return false;
            }
            addLodger(room, anger, to);
            return true;
        }

        private boolean takeGrudge(int d, int i, int grudge) {
            if (d >= doorCount || i >= lodgerCount) {
                return false;
            }
            put(firstGrudges, i * MOST_DOORS + d, grudge);
            return true;
        }

        private boolean takePassing(int tenthsTold, int fadeTold) {
            if (tenthsTold > 10 || fadeTold > 9) {
                return false;
            }
            tenths = tenthsTold;
            fade = fadeTold;
            return true;
        }

        private boolean takeWear(int less) {
            if (less > 9) {
                return false;
            }
            wear = less;
            return true;
        }

        private boolean takeOil(int nights) {
            if (!within(nights, 1, 9)) {
                return false;
            }
            oilLasts = nights;
            return true;
        }

        private boolean takeDraught(int d, int more) {
            if (d >= doorCount || more > MOST_DRAUGHT) {
                return false;
            }
            put(draught, d, more);
            return true;
        }

        /** Rooms and doors may be named ahead of their telling, so this can be seen at the end of the text alone. */
        boolean canStand() {
            for (int d = 0; d < doorCount; d++) {
                if (at(passTo, d) >= doorCount) {
                    return false;
                }
            }
            for (int i = 0; i < lodgerCount; i++) {
                if (at(home, i) >= roomCount || at(goal, i) >= roomCount) {
                    return false;
                }
            }
            return doorCount > 0 && lodgerCount > 0;
        }

        /** The room on the other side of the door, or -1 if it is no door of this room. */
        int otherSide(int d, int room) {
            if (at(sideA, d) == room) {
                return at(sideB, d);
            }
            return at(sideB, d) == room ? at(sideA, d) : -1;
        }

        /** A grudge behind one more passage of that lodger. */
        int grudgeNext(int grudge, int i, boolean slams) {
            return slams ? grown(grudge, at(temper, i)) : worn(grudge, wear);
        }

        /** The first grudge behind so many passages, of which those in the set were slams. */
        int grudgeAfter(int d, int i, int times, int slams) {
            int grudge = at(firstGrudges, i * MOST_DOORS + d);
            for (int k = 0; k < times; k++) {
                grudge = grudgeNext(grudge, i, holds(slams, k));
            }
            return grudge;
        }
    }

    /** What changes in a house. */
    private static final class House {
        private final int[] grudges = new int[MOST_LODGERS * MOST_DOORS];
        private final int[] passing = new int[MOST_DOORS];
        private final int[] oilLeft = new int[MOST_DOORS];
        private final int[] place = new int[MOST_LODGERS];
        private int minutes;
        private int nights;

        void beginAs(Plan plan) {
            copy(plan.firstGrudges, grudges);
            copy(plan.home, place);
            fill(oilLeft, 0);
            minutes = 0;
            nights = 0;
        }

        void become(House other) {
            copy(other.grudges, grudges);
            copy(other.oilLeft, oilLeft);
            copy(other.place, place);
            minutes = other.minutes;
            nights = other.nights;
        }

        int grudgeOf(int d, int i) {
            return at(grudges, i * MOST_DOORS + d);
        }

        private void setGrudge(int d, int i, int grudge) {
            put(grudges, i * MOST_DOORS + d, grudge);
        }

        private boolean isOiled(int d) {
            return at(oilLeft, d) > 0;
        }

        int oiledDoors() {
            int oiled = 0;
            for (int d = 0; d < MOST_DOORS; d++) {
                oiled += isOiled(d) ? 1 : 0;
            }
            return oiled;
        }

        int minutesThrough(int d, int i) {
            return isOiled(d) ? 1 : 1 + grudgeOf(d, i);
        }

        /** The door has to be one of the room where he is. */
        int passThrough(Plan plan, int i, int d, boolean slams) {
            int taken = minutesThrough(d, i);
            minutes += taken;
            put(place, i, plan.otherSide(d, at(place, i)));
            setGrudge(d, i, plan.grudgeNext(grudgeOf(d, i), i, slams));
            return taken;
        }

        void sleep(Plan plan) {
            for (int i = 0; i < plan.lodgerCount; i++) {
                passOn(plan, i);
            }
            dryOil();
            nights++;
        }

        /** Grudges against one lodger never meet those against another, so the others can be left alone. */
        void sleepAgainstOne(Plan plan, int n, int i) {
            for (int k = 0; k < n; k++) {
                passOn(plan, i);
                dryOil();
            }
        }

        private void passOn(Plan plan, int i) {
            fill(passing, 0);
            for (int d = 0; d < plan.doorCount; d++) {
                int x = at(plan.passTo, d);
                if (x != d && !isOiled(d) && !isOiled(x)) {
                    int part = grudgeOf(d, i) * plan.tenths / 10;
                    put(passing, d, at(passing, d) - part);
                    put(passing, x, at(passing, x) + part);
                }
            }
            for (int d = 0; d < plan.doorCount; d++) {
                int faded = worn(grudgeOf(d, i) + at(passing, d), plan.fade);
                setGrudge(d, i, grown(faded, at(plan.draught, d)));
            }
        }

        private void dryOil() {
            for (int d = 0; d < MOST_DOORS; d++) {
                put(oilLeft, d, Math.max(0, at(oilLeft, d) - 1));
            }
        }

        int grudgesOfDoor(Plan plan, int d) {
            int sum = 0;
            for (int i = 0; i < plan.lodgerCount; i++) {
                sum += grudgeOf(d, i);
            }
            return sum;
        }

        int allGrudges(Plan plan) {
            int sum = 0;
            for (int d = 0; d < plan.doorCount; d++) {
                sum += grudgesOfDoor(plan, d);
            }
            return sum;
        }
    }

    /** Houses as they were, the latest on top; where there is no more room, the oldest one goes. */
    private static final class Past {
        private final House[] slots;
        private int size;

        Past(int most) {
            slots = new House[Math.max(0, most)];
            for (int k = 0; k < slots.length; k++) {
                slots[k] = new House();
            }
        }

        void forgetAll() {
            size = 0;
        }

        void push(House house) {
            if (size >= slots.length) {
                dropOldest();
            }
            House slot = slotAt(size);
            if (slot != null) {
                slot.become(house);
                size++;
            }
        }

        boolean pop(House into) {
            House slot = slotAt(size - 1);
            if (slot == null) {
                return false;
            }
            into.become(slot);
            size--;
            return true;
        }

        private House slotAt(int k) {
            return k >= 0 && k < slots.length ? slots[k] : null;
        }

        private void dropOldest() {
            if (slots.length < 1) {
                return;
            }
            House oldest = slots[0];
            for (int k = 1; k < slots.length; k++) {
                slots[k - 1] = slots[k];
            }
            slots[slots.length - 1] = oldest;
            size = slots.length - 1;
        }
    }

    /** How long one lodger takes from each room to one of them. */
    private static final class Ways {
        private final int[] least = new int[MOST_ROOMS];
        private final int[] price = new int[MOST_DOORS];

        /** The doors in the set are taken as oiled. */
        void measure(Plan plan, House house, int i, int to, int set) {
            for (int d = 0; d < plan.doorCount; d++) {
                put(price, d, holds(set, d) ? 1 : house.minutesThrough(d, i));
            }
            fill(least, FAR);
            put(least, to, 0);
            boolean shorter = true;
            for (int round = 1; round < plan.roomCount && shorter; round++) {
                shorter = shorten(plan);
            }
        }

        private boolean shorten(Plan plan) {
            boolean shorter = false;
            for (int d = 0; d < plan.doorCount; d++) {
                int a = at(plan.sideA, d);
                int b = at(plan.sideB, d);
                int byA = at(least, a) + at(price, d);
                int byB = at(least, b) + at(price, d);
                if (byB < at(least, a)) {
                    put(least, a, byB);
                    shorter = true;
                } else if (byA < at(least, b)) {
                    put(least, b, byA);
                    shorter = true;
                }
            }
            return shorter;
        }

        int minutesFrom(int room) {
            return at(least, room) < FAR ? at(least, room) : NONE;
        }

        int lowestDoorFrom(Plan plan, int room) {
            if (minutesFrom(room) <= 0) {
                return NONE;
            }
            for (int d = 0; d < plan.doorCount; d++) {
                int other = plan.otherSide(d, room);
                if (other >= 0 && at(price, d) + at(least, other) == at(least, room)) {
                    return d;
                }
            }
            return NONE;
        }
    }

    /**
     * Who could live where. A code has a figure to base MOST_ROOMS for each lodger, that of lodger 0 ahead:
     * so the first of several is the one of the lowest code.
     */
    private static final class Rooming {
        private final int[] loss = new int[MOST_LODGERS * MOST_ROOMS];
        private int lodgerCount;
        private int roomCount;

        void measure(Plan plan, House house, Ways ways) {
            lodgerCount = plan.lodgerCount;
            roomCount = plan.roomCount;
            for (int i = 0; i < lodgerCount; i++) {
                ways.measure(plan, house, i, at(plan.goal, i), 0);
                for (int room = 0; room < roomCount; room++) {
                    put(loss, i * MOST_ROOMS + room, ways.minutesFrom(room));
                }
            }
        }

        /** The first code of the least sum, or -1. */
        int bestCode() {
            int codes = 1;
            for (int i = 0; i < lodgerCount; i++) {
                codes *= MOST_ROOMS;
            }
            int best = -1;
            int least = FAR;
            for (int code = 0; code < codes; code++) {
                int sum = sumOf(code);
                if (sum >= 0 && sum < least) {
                    best = code;
                    least = sum;
                }
            }
            return best;
        }

        /** NONE, if two would share a room or one has no way. */
        int sumOf(int code) {
            int sum = 0;
            int taken = 0;
            int rest = code;
            for (int i = lodgerCount - 1; i >= 0; i--) {
                int room = rest % MOST_ROOMS;
                rest /= MOST_ROOMS;
                int minutes = at(loss, i * MOST_ROOMS + room);
                if (room >= roomCount || holds(taken, room) || minutes < 0) {
                    return NONE;
                }
                taken |= 1 << room;
                sum += minutes;
            }
            return sum;
        }

        int roomIn(int code, int i) {
            int rest = code;
            for (int k = lodgerCount - 1; k > i; k--) {
                rest /= MOST_ROOMS;
            }
            return rest % MOST_ROOMS;
        }
    }
}
