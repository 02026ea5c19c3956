/** What stands behind Terms 4 of BAD, NO, NONE and FULL: refused calls, their order, and that they change nothing. */
public final class RefusedTest {
    private static final int BAD = Checks.BAD, NO = Checks.NO, FULL = Checks.FULL, NONE = Checks.NONE;
    private static final Checks is = new Checks();
    private static final String HOUSE = "r4;d0,1,1;d1,2,0;l0,5,2;l2,3,3;g0,0,20;g1,1,9;u1,2;";

    public static void main(String[] args) {
        bad();
        no();
        none();
        full();
        firstInThisOrder();
        nothingChanges();
        wildNumbers();
        calls512();
        is.close();
    }

    private static void bad() {
        is.sentence("Terms 4", "BAD: a number is none that is told (ROOMS, DOORS, LODGERS: such as there are).");
        for (int n = 1; n <= 8; n++) {
            doorsThereAre(n);
        }
        for (int n = 1; n <= 4; n++) {
            lodgersThereAre(n);
        }
        for (int n = 2; n <= 6; n++) {
            DoorsThatRemember x = Checks.house("r" + n + ";d0,1,0;l0,1,0;");
            is.due("way to the last of " + n, x.way(0, n - 1, n - 1), 0);
            is.due("way to room " + n, x.way(0, n, n), BAD);
            is.due("first to the last of " + n, x.first(0, n - 1, n - 1), NONE);
            is.due("first to room " + n, x.first(0, n, n), BAD);
        }
    }

    private static void doorsThereAre(int n) {
        DoorsThatRemember x = Checks.house("d0,1,0;".repeat(n) + "l0,1,0;");
        for (int d = n - 1; d <= n; d++) {
            boolean there = d < n;
            String of = " of door " + d + ", " + n + " there";
            is.due("door" + of, x.door(d, 1), there ? 1 : BAD);
            is.due("grudge" + of, x.grudge(d, 0), there ? 0 : BAD);
            is.due("go" + of, x.go(0, d, false), there ? 1 : BAD);
            is.due("oil" + of, x.oil(d), there ? 1 : BAD);
            is.due("behind" + of, x.behind(1, d, 0), there ? 0 : BAD);
            is.due("stop" + of, x.stop(1, d, 0, 1), there ? 0 : BAD);
            is.due("how" + of, x.how(0, d, 0, 1, 0), there ? 1 : BAD);
            is.due("fresh" + of, x.fresh(d), there ? 0 : BAD);
        }
    }

    private static void lodgersThereAre(int n) {
        DoorsThatRemember x = Checks.house("r4;d0,1,0;" + "l0,1,0;".repeat(n));
        for (int i = n - 1; i <= n; i++) {
            boolean there = i < n;
            String of = " of lodger " + i + ", " + n + " there";
            is.due("lodger" + of, x.lodger(i, 1), there ? 1 : BAD);
            is.due("grudge" + of, x.grudge(0, i), there ? 0 : BAD);
            is.due("way" + of, x.way(i, 0, 1), there ? 1 : BAD);
            is.due("first" + of, x.first(i, 0, 1), there ? 0 : BAD);
            is.due("inTime" + of, x.inTime(i, 5), there ? 0 : BAD);
            is.due("rooms" + of, x.rooms(i), there ? (n > 2 ? NONE : n - 1) : BAD);
            is.due("behind" + of, x.behind(1, 0, i), there ? 0 : BAD);
            is.due("worst" + of, x.worst(1, i), there ? 0 : BAD);
            is.due("stop" + of, x.stop(1, 0, i, 1), there ? 0 : BAD);
            is.due("how" + of, x.how(i, 0, 0, 1, 0), there ? 1 : BAD);
            is.due("go" + of, x.go(i, 0, false), there ? 1 : BAD);
        }
    }

    private static void no() {
        is.sentence("Terms 4", "NO: not as things stand.");
        DoorsThatRemember x = Checks.house(HOUSE);
        is.due("go by a door of another room", x.go(0, 1, false), NO);
        x.go(0, 0, false);
        is.due("go by it, there now", x.go(0, 1, false), 1);
        is.due("back, nothing kept", x.back(), NO);
        x.keep();
        is.due("back, kept now", x.back(), 0);
        is.due("undo, brought back", x.undo(), NO);
        x.oil(0);
        is.due("undo, oiled now", x.undo(), 0);
        x.write(1, 'w');
        is.due("lay of a fault", x.lay(), NO);
        x.write(2, '7' << 8 | ';');
        is.due("lay, no fault now", x.lay(), 2);
    }

    private static void none() {
        is.sentence("Terms 4", "NONE: there is none.");
        DoorsThatRemember x = Checks.house(HOUSE);
        is.due("fault", x.fault(), NONE);
        is.due("way", x.way(0, 0, 3), NONE);
        is.due("first", x.first(0, 0, 3), NONE);
        is.due("first", x.first(0, 3, 3), NONE);
        is.due("inTime", x.inTime(1, 600), NONE);
        is.due("inTime", x.inTime(0, 1), NONE);
        is.due("stop", x.stop(0, 0, 0, 1), NONE);
        is.due("how", x.how(0, 0, 0, 1, 1), NONE);
        is.due("rooms", Checks.house("r2;d0,1,0;l0,1,0;l0,1,0;l0,1,0;").rooms(-1), NONE);
    }

    private static void full() {
        is.sentence("Terms 4", "FULL.");
        DoorsThatRemember x = new DoorsThatRemember();
        x.keep();
        x.keep();
        is.due("keep", x.keep(), FULL);
        Checks.tell(x, " ".repeat(300));
        is.due("write", x.write(1, ' '), FULL);
    }

    private static DoorsThatRemember atNight9999() {
        DoorsThatRemember x = Checks.house("d0,1,0;l0,5,2;");
        for (int k = 0; k < 166; k++) {
            x.night(60);
        }
        x.night(39);
        return x;
    }

    private static void firstInThisOrder() {
        is.sentence("Terms 4", "Of several the first in this order, whatever the order at a call");
        DoorsThatRemember x = Checks.house(HOUSE);
        for (int bad : Checks.outside(0, 1)) {
            is.due("go of no lodger by a door of no room of his", x.go(bad, 1, true), BAD);
            is.due("way of no lodger, none", x.way(bad, 0, 3), BAD);
            is.due("first of no lodger, none", x.first(bad, 0, 3), BAD);
            is.due("inTime of no lodger, none", x.inTime(bad, 0), BAD);
            is.due("stop of no door, none", x.stop(0, bad, 0, 1), BAD);
            is.due("stop against no lodger, none", x.stop(0, 0, bad, 1), BAD);
            is.due("how of no lodger, none", x.how(bad, 0, 0, 1, 1), BAD);
            is.due("how of no door, none", x.how(0, bad, 0, 1, 1), BAD);
        }
        is.due("first to the same room, that is not there", x.first(0, 4, 4), BAD);
        is.due("way to the same room, that is not there", x.way(0, -1, -1), BAD);
        is.due("inTime in less than 0", x.inTime(1, -1), BAD);
        is.due("inTime in 601", x.inTime(1, 601), BAD);
        is.due("how in 0 minutes", x.how(0, 0, 0, 0, 1), BAD);
        is.due("how in 101 minutes", x.how(0, 0, 0, 101, 1), BAD);
        is.due("stop below 0", x.stop(0, 0, 0, 0), BAD);
        DoorsThatRemember many = Checks.house("r2;d0,1,0;l0,1,0;l0,1,0;l0,1,0;");
        is.due("rooms of no lodger, none", many.rooms(3), BAD);
        is.due("rooms of no lodger, none", many.rooms(-2), BAD);
        DoorsThatRemember late = atNight9999();
        is.due("61 nights at night 9999", late.night(61), BAD);
        is.due("0 nights at night 9999", late.night(0), BAD);
        is.due("a night at night 9999", late.night(1), NO);
        DoorsThatRemember full = Checks.told(" ".repeat(300));
        is.due("write of 9 behind 300", full.write(9, 0), BAD);
        is.due("write of 0 behind 300", full.write(0, 0), BAD);
        is.due("write of MAX behind 300", full.write(Checks.MAX, 0), BAD);
    }

    // ---- nothing changes

    /** All that can be seen of a house without changing it. */
    private static void alike(String when, DoorsThatRemember x, DoorsThatRemember y) {
        for (int what = 0; what < 8; what++) {
            is.due(when + ", count(" + what + ")", x.count(what), y.count(what));
        }
        for (int k = 0; k < 2; k++) {
            is.due(when + ", door(" + k + ", 3)", x.door(k, 3), y.door(k, 3));
            is.due(when + ", lodger(" + k + ", 0)", x.lodger(k, 0), y.lodger(k, 0));
            is.due(when + ", grudge(0, " + k + ")", x.grudge(0, k), y.grudge(0, k));
            is.due(when + ", grudge(1, " + k + ")", x.grudge(1, k), y.grudge(1, k));
        }
    }

    /** All that can be undone and brought back, too. */
    private static void alikeToTheEnd(String when, DoorsThatRemember x, DoorsThatRemember y) {
        alike(when, x, y);
        for (int k = 0; k < 9; k++) {
            is.due(when + ", undo " + k, x.undo(), y.undo());
            alike(when + ", undo " + k, x, y);
        }
        for (int k = 0; k < 3; k++) {
            is.due(when + ", back " + k, x.back(), y.back());
            alike(when + ", back " + k, x, y);
        }
        is.due(when + ", fault", x.fault(), y.fault());
        is.due(when + ", lay", x.lay(), y.lay());
        alike(when + ", laid", x, y);
    }

    private static DoorsThatRemember usedHouse() {
        DoorsThatRemember x = Checks.house(HOUSE);
        x.go(0, 0, true);
        x.keep();
        x.oil(0);
        x.night(1);
        x.go(1, 1, true);
        x.go(0, 1, false);
        x.keep();
        for (int k = 0; k < 6; k++) {
            x.go(1, 1, k % 2 == 0);
        }
        x.oil(1);
        x.go(1, 0, true);
        return x;
    }

    private static void refuseNumbers(DoorsThatRemember x) {
        for (int bad : new int[] {Checks.MIN, -2, 8, Checks.MAX}) {
            x.go(bad, 0, true);
            x.go(0, bad, true);
            x.oil(bad);
            x.night(bad < 8 ? bad : bad + 53);
            x.write(bad < 8 ? bad : 9, ' ');
            x.door(bad, 0);
            x.lodger(bad, 0);
            x.stop(0, bad, 0, 1);
            x.week(bad < 8 ? bad : 10000, 9, 0);
            x.how(0, 0, 0, bad < 8 ? bad : 101, 0);
        }
    }

    private static void nothingChanges() {
        is.sentence("Terms 4", "nothing changes then.");
        DoorsThatRemember x = usedHouse();
        refuseNumbers(x);
        alikeToTheEnd("numbers that are none", x, usedHouse());

        DoorsThatRemember y = usedHouse();
        is.due("go, not of his room", y.go(0, 0, true), NO);
        is.due("keep a third one", y.keep(), FULL);
        is.due("way", y.way(0, 0, 3), NONE);
        is.due("first", y.first(0, 0, 3), NONE);
        is.due("inTime", y.inTime(1, 600), NONE);
        is.due("stop", y.stop(0, 0, 0, 1), NONE);
        is.due("how", y.how(0, 0, 0, 1, 1), NONE);
        is.due("fault", y.fault(), NONE);
        alikeToTheEnd("go, keep and what there is none of", y, usedHouse());

        DoorsThatRemember full = usedHouse();
        DoorsThatRemember other = usedHouse();
        Checks.tell(full, " ".repeat(300 - HOUSE.length()));
        Checks.tell(other, " ".repeat(300 - HOUSE.length()));
        is.due("write", full.write(8, 0), FULL);
        is.due("lay", full.lay(), NO);
        alikeToTheEnd("write and lay", full, other);

        DoorsThatRemember late = atNight9999();
        is.due("night", late.night(1), NO);
        is.due("night", late.night(60), NO);
        is.due("nights", late.count(4), 9999);
        is.due("undo of 39", late.undo(), 7);
        is.due("nights", late.count(4), 9960);

        DoorsThatRemember fresh = new DoorsThatRemember();
        is.due("undo", fresh.undo(), NO);
        is.due("back", fresh.back(), NO);
        is.due("lay", fresh.lay(), NO);
        alikeToTheEnd("a new object", fresh, new DoorsThatRemember());

        DoorsThatRemember asked = usedHouse();
        for (int k = 0; k < 2; k++) {
            asked.way(k, 0, 2);
            asked.first(k, 0, 2);
            asked.inTime(k, k + 3);
            asked.rooms(k - 1);
            asked.behind(60, k, 1 - k);
            asked.worst(60, k);
            asked.stop(9, k, 0, 1);
            asked.how(k, 0, 8, 20, 0);
            asked.fresh(k - 1);
            asked.week(9, 60, k);
            asked.fault();
        }
        alikeToTheEnd("what is only asked", asked, usedHouse());
    }

    // ---- any numbers, many calls

    private static final int[] WILD = {Checks.MIN, -1, 0, 1, 7, 99, Checks.MAX};

    private static void wildNumbers() {
        is.sentence("Terms 4", "a number is none that is told");
        for (int a : WILD) {
            DoorsThatRemember one = usedHouse();
            answers("one number " + a, one.write(a, Long.MIN_VALUE), one.oil(a), one.night(a), one.rooms(a), one.fresh(a),
                one.count(a));
            for (int b : WILD) {
                DoorsThatRemember two = usedHouse();
                answers("two numbers " + a + " " + b, two.door(a, b), two.lodger(a, b), two.grudge(a, b), two.go(a, b, true),
                    two.inTime(a, b), two.worst(a, b));
                for (int c : WILD) {
                    DoorsThatRemember three = usedHouse();
                    answers("three numbers " + a + " " + b + " " + c, three.way(a, b, c), three.first(a, b, c),
                        three.behind(a, b, c), three.week(a, b, c), three.stop(a, b, c, a), three.how(a, b, c, a, b),
                        three.stop(c, b, a, c), three.how(c, b, a, b, a), three.stop(a, a, b, c), three.how(a, b, a, c, c));
                }
            }
        }
    }

    /** An answer is one of the four or more than they are, and no call throws. */
    private static void answers(String call, int... answers) {
        for (int answer : answers) {
            is.due(call + " answers " + answer, answer >= NONE);
        }
    }

    private static void calls512() {
        is.sentence("What it is", "An object is used for at most 512 calls after it has been made");
        String text = "r6;d0,1,1;d1,2,2;d2,3,3;d3,4,4;d4,5,5;d5,0,6;d0,2,7;d1,3,0;l0,20,5;l1,19,4;l2,18,3;l3,17,2;p4,0;u0,9;";
        DoorsThatRemember x = Checks.house(text);
        int[] first = new int[4];
        for (int k = 0; k < 120; k++) {
            int[] now = {x.week(4711, 60, 0), x.stop(60, 4, 3, 1), x.inTime(3, 0), x.rooms(-1)};
            for (int c = 0; c < 4; c++) {
                first[c] = k == 0 ? now[c] : first[c];
                is.due("dear call " + c + ", asked " + k + " times ahead", now[c], first[c]);
            }
        }
        DoorsThatRemember y = Checks.house("d0,1,0;l0,1,1;");
        for (int k = 0; k < 250; k++) {
            is.due("go number " + k, y.go(0, 0, true), Math.min(100, 1 + k));
            is.due("go, undone and done again", y.count(5), Math.min(8, k + 1));
        }
        is.due("minutes", y.count(3), 100 * 101 / 2 + 150 * 100);
    }
}
