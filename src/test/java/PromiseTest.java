/** Each promise by hand: ordinary inputs, the edges that the document names, wrong inputs. */
public final class PromiseTest {
    private static final int BAD = -1, NO = -2, FULL = -3, NONE = -4;
    private static final int MIN = Integer.MIN_VALUE, MAX = Integer.MAX_VALUE;
    private static final Checks is = new Checks();

    public static void main(String[] args) {
        newObject();
        write();
        wipe();
        fault();
        lay();
        door();
        lodger();
        grudge();
        go();
        oil();
        night();
        undo();
        way();
        first();
        inTime();
        rooms();
        behind();
        worst();
        stop();
        how();
        fresh();
        week();
        keep();
        back();
        count();
        is.close();
    }

    private static DoorsThatRemember house(String text) {
        return Checks.house(text);
    }

    private static int faultOf(String text) {
        DoorsThatRemember x = new DoorsThatRemember();
        Checks.tell(x, text);
        return x.fault();
    }

    private static int layOf(String text) {
        DoorsThatRemember x = new DoorsThatRemember();
        Checks.tell(x, text);
        return x.lay();
    }

    /** The same text, again and again. */
    private static String times(int n, String text) {
        return text.repeat(n);
    }

    // Promise 1
    private static void newObject() {
        DoorsThatRemember x = new DoorsThatRemember();
        int[] counts = {3, 2, 2, 0, 0, 0, 0, 0};
        for (int what = 0; what < counts.length; what++) {
            is.due("new: count(" + what + ")", x.count(what), counts[what]);
        }
        int[][] doors = {{0, 1, 1, 0, 0}, {1, 2, 0, 0, 0}};
        for (int d = 0; d < 2; d++) {
            for (int what = 0; what < 5; what++) {
                is.due("new: door(" + d + ", " + what + ")", x.door(d, what), doors[d][what]);
            }
        }
        int[][] lodgers = {{0, 5, 2}, {2, 3, 0}};
        for (int i = 0; i < 2; i++) {
            for (int what = 0; what < 3; what++) {
                is.due("new: lodger(" + i + ", " + what + ")", x.lodger(i, what), lodgers[i][what]);
            }
            is.due("new: grudge(0, " + i + ")", x.grudge(0, i), 0);
            is.due("new: grudge(1, " + i + ")", x.grudge(1, i), 0);
        }
        is.due("new: fault()", x.fault(), NONE);
        is.due("new: undo()", x.undo(), NO);
        is.due("new: back()", x.back(), NO);
        is.due("new: BAD", DoorsThatRemember.BAD, -1);
        is.due("new: NO", DoorsThatRemember.NO, -2);
        is.due("new: FULL", DoorsThatRemember.FULL, -3);
        is.due("new: NONE", DoorsThatRemember.NONE, -4);
        // w, p and o as without: wear 1, 3 tenths, 1 fades, oil for 2 nights
        x.go(0, 0, true);
        x.go(0, 0, true);
        x.go(0, 0, false);
        is.due("new: w", x.grudge(0, 0), 9);
        x.night(1);
        is.due("new: p, F", x.grudge(0, 0), 6);
        is.due("new: p", x.grudge(1, 0), 1);
        x.oil(1);
        is.due("new: o", x.door(1, 3), 2);
    }

    // Promise 2
    private static void write() {
        DoorsThatRemember x = new DoorsThatRemember();
        is.due("write(0)", x.write(0, 'r'), BAD);
        is.due("write(9)", x.write(9, 'r'), BAD);
        is.due("write(-1)", x.write(-1, 'r'), BAD);
        is.due("write(MIN)", x.write(MIN, 'r'), BAD);
        is.due("write(MAX)", x.write(MAX, 'r'), BAD);
        is.due("write: BAD changes nothing", x.count(7), 0);
        // the lowest bytes alone, the highest of these first
        is.due("write(3, ..)", x.write(3, 0x7f7f7f7f72343bL), 3);
        is.due("write: r4;", x.fault(), NONE);
        is.due("write(1, ..)", x.write(1, 0x6468L << 8 | 'w'), 4);
        is.due("write(2, ..)", x.write(2, '9' << 8 | ';'), 6);
        is.due("write: w9;", x.fault(), NONE);
        is.due("write(8, negative)", x.write(8, -1L), 14);
        is.due("write: a byte of 255", x.fault(), 6);
        DoorsThatRemember full = new DoorsThatRemember();
        for (int k = 1; k <= 37; k++) {
            is.due("write: 8 more", full.write(8, 0), 8 * k);
        }
        is.due("write: 301", full.write(5, 0), FULL);
        is.due("write: BAD ahead of FULL", full.write(9, 0), BAD);
        is.due("write: FULL changes nothing", full.count(7), 296);
        is.due("write: 300", full.write(4, 0), 300);
        is.due("write: 301", full.write(1, 0), FULL);
        is.due("write: 308", full.write(8, 0), FULL);
        is.due("write: BAD, when full", full.write(0, 0), BAD);
    }

    // Promise 3
    private static void wipe() {
        DoorsThatRemember x = new DoorsThatRemember();
        is.due("wipe: empty", x.wipe(), 0);
        Checks.tell(x, "zzzzzzzzzzz");
        is.due("wipe()", x.wipe(), 11);
        is.due("wipe: count", x.count(7), 0);
        is.due("wipe: fault", x.fault(), NONE);
        is.due("wipe: lay", x.lay(), NO);
        is.due("wipe: the house stays", x.count(1), 2);
        is.due("wipe: again", x.wipe(), 0);
        is.due("wipe: then write", x.write(1, 'r'), 1);
    }

    // Promise 4
    private static void fault() {
        String[] right = {
            "r2;", "r6;", "r06;", "r3;r4;r5;", "d0,1,0;", "d2,0,7;", "r6;d5,4,7;", "r2;r6;d5,0,0;", "d00,01,07;",
            "l0,1,0;", "l5,20,5;", "d0,1,0;l0,1,0;g0,0,0;", "d0,1,0;l0,1,0;g0,0,99;g0,0,1;", "p0,0;", "p10,9;",
            "w0;", "w9;", "o1;", "o9;", "d0,1,0;u0,0;", "d0,1,0;u0,20;u0,1;", times(8, "d0,1,7;"),
            times(4, "l0,1,0;"), times(8, "d0,1,7;") + times(4, "l0,1,0;") + "g7,3,9;u7,3;",
            "l5,1,5;r2;", "w1;w2;o3;o4;p1,1;p2,2;"};
        for (String text : right) {
            is.due("fault of " + text, faultOf(text), NONE);
        }
        String[] wrong = {
            ";", " ", "r", "r;", "r3", "r3,", "r3,;", "r1;", "r7;", "r0;", "r99;", "r003;", "r3,3;", "r3;;".substring(3),
            "R3;", "r-3;", "r 3;", "r3 ;", "x1;", "3;", ",", "d0,1;", "d0,1,0", "d0,1,0,", "d0,1,0,0;", "d0,0,0;",
            "d1,1,0;", "d3,0,0;", "d0,3,0;", "d0,1,8;", "d0,1,10;", "d0,1,001;", "d,1,0;", "d0,,0;", "d0;1,0;",
            "l6,1,0;", "l0,0,0;", "l0,21,0;", "l0,1,6;", "l0,1;", "l0,1,0,0;", "g0,0,0;", "g0,0;", "p11,0;",
            "p0,10;", "p1;", "p1,1,1;", "w10;", "w1,1;", "w;", "o0;", "o10;", "o1,1;", "u0,0;", "u0;", "u0,0,0;",
            "\u00ff1;", "r\u00b2;", "\u0000"};
        for (String text : wrong) {
            is.due("fault of " + text, faultOf(text), 0);
            is.due("fault of w1; and " + text, faultOf("w1;" + text), 3);
            is.due("fault of o12; and " + text, faultOf("w1;o12;" + text), 3);
        }
        is.due("fault: r behind a d", faultOf("d0,1,0;r4;"), 7);
        is.due("fault: r behind an l", faultOf("l0,1,0;r4;"), NONE);
        is.due("fault: below N as told", faultOf("r2;d0,2,0;"), 3);
        is.due("fault: below N as told last", faultOf("r6;r2;d0,2,0;"), 6);
        is.due("fault: the ninth door", faultOf(times(9, "d0,1,0;")), 56);
        is.due("fault: the fifth lodger", faultOf(times(5, "l0,1,0;")), 28);
        is.due("fault: door not told ahead", faultOf("l0,1,0;g0,0,1;d0,1,0;"), 7);
        is.due("fault: lodger not told ahead", faultOf("d0,1,0;g0,0,1;l0,1,0;"), 7);
        is.due("fault: the second door of one", faultOf("d0,1,0;l0,1,0;g1,0,1;"), 14);
        is.due("fault: the second lodger of one", faultOf("d0,1,0;l0,1,0;g0,1,1;"), 14);
        is.due("fault: three figures", faultOf("d0,1,0;l0,1,0;g0,0,100;"), 14);
        is.due("fault: draught above 20", faultOf("d0,1,0;u0,21;"), 7);
        is.due("fault: draught of no door", faultOf("d0,1,0;u1,2;"), 7);
        is.due("fault: the last item without ;", faultOf("w1;w2"), 3);
        is.due("fault: the first of several", faultOf("w1;w10;w10;"), 3);
        is.due("fault: far behind", faultOf(times(99, "w1;") + "w"), 297);
        is.due("fault: none in 300 bytes", faultOf(times(100, "w1;")), NONE);
        DoorsThatRemember x = new DoorsThatRemember();
        Checks.tell(x, "r5;d0,1,0;l0,1,0;");
        x.fault();
        is.due("fault: nothing changes", x.count(0), 3);
        is.due("fault: again", x.fault(), NONE);
        is.due("fault: the text stays", x.count(7), 17);
    }

    // Promise 5
    private static void lay() {
        is.due("lay: no text", layOf(""), NO);
        is.due("lay: no lodger", layOf("d0,1,0;"), NO);
        is.due("lay: no door", layOf("l0,1,0;"), NO);
        is.due("lay: a fault", layOf("d0,1,0;l0,1,0;w10;"), NO);
        is.due("lay: no such room to be in", layOf("d0,1,0;l3,1,0;"), NO);
        is.due("lay: no such room to go to", layOf("d0,1,0;l0,1,3;"), NO);
        is.due("lay: no such door to pass on to", layOf("d0,1,1;l0,1,0;"), NO);
        is.due("lay: the last of two lodgers", layOf("r5;d0,1,0;l0,1,0;l0,1,5;"), NO);
        is.due("lay: a room told behind", layOf("l3,1,0;r4;d0,1,0;"), 1);
        is.due("lay: a door told behind", layOf("d0,1,1;d1,2,0;l0,1,0;"), 2);
        is.due("lay: eight doors", layOf(times(8, "d0,1,7;") + "l0,1,0;"), 8);
        DoorsThatRemember x = new DoorsThatRemember();
        x.go(0, 0, true);
        x.oil(0);
        x.night(3);
        x.keep();
        Checks.tell(x, "d0,1,1;l0,1,0;");
        is.due("lay: NO", x.lay(), NO);
        is.due("lay: NO changes no grudge", x.grudge(0, 0), 2);
        is.due("lay: NO changes no nights", x.count(4), 3);
        is.due("lay: NO leaves what can be undone", x.count(5), 3);
        is.due("lay: NO leaves what is kept", x.count(6), 1);
        x.wipe();
        String text = "r2;r4;p1,1;p10,0;w3;w4;o3;o7;d3,0,0;l1,9,3;l0,2,1;g0,0,5;g0,0,7;g0,1,8;u0,3;u0,2;";
        Checks.tell(x, text);
        is.due("lay()", x.lay(), 1);
        int[] counts = {4, 1, 2, 0, 0, 0, 0, text.length()};
        for (int what = 0; what < counts.length; what++) {
            is.due("lay: count(" + what + ")", x.count(what), counts[what]);
        }
        is.due("lay: door", x.door(0, 0), 3);
        is.due("lay: door", x.door(0, 1), 0);
        is.due("lay: the last draught counts", x.door(0, 4), 2);
        is.due("lay: nothing is oiled", x.door(0, 3), 0);
        is.due("lay: the last grudge counts", x.grudge(0, 0), 7);
        is.due("lay: grudge", x.grudge(0, 1), 8);
        is.due("lay: nothing undone", x.undo(), NO);
        is.due("lay: nothing kept", x.back(), NO);
        is.due("lay: the last o counts", x.oil(0), 1);
        is.due("lay: the last o counts", x.door(0, 3), 7);
        x.go(1, 0, false);
        is.due("lay: the last w counts", x.grudge(0, 1), 4);
        x.night(1);
        is.due("lay: the last p counts", x.grudge(0, 0), 9);
        is.due("lay: again", x.lay(), 1);
        is.due("lay: again", x.grudge(0, 0), 7);
        is.due("lay: again", x.count(4), 0);
        is.due("lay: again", x.door(0, 3), 0);
        is.due("lay: again", x.lodger(1, 0), 0);
        x.wipe();
        Checks.tell(x, "d0,1,0;l0,1,0;");
        x.lay();
        is.due("lay: what is not told is as without: rooms", x.count(0), 3);
        is.due("lay: grudges", x.grudge(0, 0), 0);
        is.due("lay: draughts", x.door(0, 4), 0);
        x.oil(0);
        is.due("lay: oil", x.door(0, 3), 2);
        for (int k = 0; k < 10; k++) {
            x.go(0, 0, true);
        }
        x.go(0, 0, false);
        is.due("lay: wear", x.grudge(0, 0), 9);
        x.wipe();
        Checks.tell(x, "d0,1,1;d1,2,1;l0,1,0;g0,0,10;");
        x.lay();
        x.night(1);
        is.due("lay: passing and fading", x.grudge(0, 0), 6);
        is.due("lay: passing and fading", x.grudge(1, 0), 2);
    }

    // Promise 6
    private static void door() {
        DoorsThatRemember x = house("r6;o4;d5,0,1;d2,3,1;l0,1,0;u1,20;");
        int[][] want = {{5, 0, 1, 0, 0}, {2, 3, 1, 4, 20}};
        x.oil(1);
        for (int d = 0; d < 2; d++) {
            for (int what = 0; what < 5; what++) {
                is.due("door(" + d + ", " + what + ")", x.door(d, what), want[d][what]);
            }
        }
        x.night(3);
        is.due("door: oil lasts still", x.door(1, 3), 1);
        x.night(1);
        is.due("door: no oil", x.door(1, 3), 0);
        x.night(1);
        is.due("door: no oil", x.door(1, 3), 0);
        for (int d : new int[] {MIN, -1, 2, 8, MAX}) {
            is.due("door: no such", x.door(d, 0), BAD);
        }
        for (int what : new int[] {MIN, -1, 5, MAX}) {
            is.due("door: no such what", x.door(0, what), BAD);
        }
    }

    // Promise 7
    private static void lodger() {
        DoorsThatRemember x = house("r6;d5,0,0;l5,20,3;l0,1,0;");
        int[][] want = {{5, 20, 3}, {0, 1, 0}};
        for (int i = 0; i < 2; i++) {
            for (int what = 0; what < 3; what++) {
                is.due("lodger(" + i + ", " + what + ")", x.lodger(i, what), want[i][what]);
            }
        }
        x.go(0, 0, false);
        is.due("lodger: he went", x.lodger(0, 0), 0);
        is.due("lodger: the other stayed", x.lodger(1, 0), 0);
        is.due("lodger: where he has to go", x.lodger(0, 2), 3);
        for (int i : new int[] {MIN, -1, 2, 4, MAX}) {
            is.due("lodger: no such", x.lodger(i, 0), BAD);
        }
        for (int what : new int[] {MIN, -1, 3, MAX}) {
            is.due("lodger: no such what", x.lodger(0, what), BAD);
        }
    }

    // Promise 8
    private static void grudge() {
        DoorsThatRemember x = house("r2;d0,1,0;d0,1,1;l0,1,0;l0,2,0;l0,3,0;g0,0,1;g0,2,99;g1,1,44;g1,2,0;");
        int[][] want = {{1, 0, 99}, {0, 44, 0}};
        for (int d = 0; d < 2; d++) {
            for (int i = 0; i < 3; i++) {
                is.due("grudge(" + d + ", " + i + ")", x.grudge(d, i), want[d][i]);
            }
        }
        for (int k : new int[] {MIN, -1, 3, 8, MAX}) {
            is.due("grudge: no such door", x.grudge(k, 0), BAD);
            is.due("grudge: no such lodger", x.grudge(0, k), BAD);
        }
        is.due("grudge: no door 2", x.grudge(2, 0), BAD);
    }

    // Promise 9
    private static void go() {
        DoorsThatRemember x = house("r3;w4;d0,1,0;d2,1,1;l0,20,0;l1,7,0;g0,0,50;g1,0,3;");
        is.due("go: not of his room", x.go(0, 1, true), NO);
        is.due("go: NO changes nothing", x.count(5), 0);
        is.due("go", x.go(0, 0, true), 51);
        is.due("go: his temper more", x.grudge(0, 0), 70);
        is.due("go: not against the other", x.grudge(0, 1), 0);
        is.due("go: not of another door", x.grudge(1, 0), 3);
        is.due("go: minutes", x.count(3), 51);
        is.due("go: no night", x.count(4), 0);
        is.due("go: from side B", x.go(0, 1, false), 4);
        is.due("go: 0 at least", x.grudge(1, 0), 0);
        is.due("go: where he is", x.lodger(0, 0), 2);
        is.due("go: not of this room", x.go(0, 0, false), NO);
        is.due("go: back from side A", x.go(0, 1, true), 1);
        is.due("go: where he is", x.lodger(0, 0), 1);
        is.due("go", x.go(0, 0, true), 71);
        is.due("go: 90", x.grudge(0, 0), 90);
        is.due("go", x.go(0, 0, true), 91);
        is.due("go: 99 at most", x.grudge(0, 0), 99);
        is.due("go", x.go(0, 0, false), 100);
        is.due("go: gently", x.grudge(0, 0), 95);
        x.oil(0);
        is.due("go: an oiled one", x.go(0, 0, false), 1);
        is.due("go: of an oiled one, too", x.grudge(0, 0), 91);
        is.due("go: an oiled one", x.go(0, 0, true), 1);
        is.due("go: of an oiled one, too", x.grudge(0, 0), 99);
        is.due("go: minutes", x.count(3), 51 + 4 + 1 + 71 + 91 + 100 + 1 + 1);
        for (int k : new int[] {MIN, -1, 2, 4, 8, MAX}) {
            is.due("go: no such lodger", x.go(k, 0, true), BAD);
            is.due("go: no such door", x.go(0, k, true), BAD);
            is.due("go: BAD ahead of NO", x.go(k, 1, true), BAD);
        }
        is.due("go: BAD changes nothing", x.count(3), 320);
        DoorsThatRemember still = house("w0;d0,1,0;l0,1,1;g0,0,5;");
        still.go(0, 0, false);
        is.due("go: w0", still.grudge(0, 0), 5);
    }

    // Promise 10
    private static void oil() {
        DoorsThatRemember x = house("o3;d0,1,0;d1,2,1;d0,2,2;l0,5,2;g0,0,9;");
        is.due("oil", x.oil(1), 1);
        is.due("oil: again", x.oil(1), 1);
        is.due("oil", x.oil(0), 2);
        is.due("oil: nights", x.door(0, 3), 3);
        is.due("oil: the grudge stays", x.grudge(0, 0), 9);
        x.night(2);
        is.due("oil: one is left", x.door(0, 3), 1);
        is.due("oil: from then on", x.oil(0), 2);
        is.due("oil: from then on", x.door(0, 3), 3);
        x.night(1);
        is.due("oil: the other is dry", x.oil(2), 2);
        is.due("oil: minutes", x.count(3), 0);
        for (int d : new int[] {MIN, -1, 3, 8, MAX}) {
            is.due("oil: no such", x.oil(d), BAD);
        }
        is.due("oil: BAD cannot be undone", x.count(5), 7);
    }

    // Promise 11
    private static void night() {
        // 45 of 90 pass on to door 1, all at once: what door 1 had passes on to door 2, what door 2 had to none
        DoorsThatRemember x = house("p5,2;d0,1,1;d1,2,2;d0,2,2;l0,5,2;l0,5,1;g0,0,91;g1,0,40;g2,0,7;g0,1,1;");
        is.due("night", x.night(1), 1);
        is.due("night: door 0", x.grudge(0, 0), 91 - 45 - 2);
        is.due("night: door 1", x.grudge(1, 0), 40 - 20 + 45 - 2);
        is.due("night: door 2", x.grudge(2, 0), 7 + 20 - 2);
        is.due("night: half of one, cut", x.grudge(0, 1), 0);
        is.due("night: 0 at least", x.grudge(1, 1), 0);
        is.due("night: minutes", x.count(3), 0);
        is.due("night: where they are", x.lodger(0, 0), 0);
        // neither from an oiled one nor to one; they fade all the same
        DoorsThatRemember o = house("p10,1;o2;d0,1,1;d1,2,2;d0,2,0;l0,5,2;g0,0,50;g1,0,40;g2,0,30;");
        o.oil(1);
        o.night(1);
        is.due("night: not to an oiled one", o.grudge(0, 0), 50 + 30 - 1);
        is.due("night: not from an oiled one", o.grudge(1, 0), 39);
        is.due("night: all of it", o.grudge(2, 0), 0);
        is.due("night: oil is for a night less", o.door(1, 3), 1);
        o.night(1);
        is.due("night: the last with oil", o.grudge(1, 0), 38);
        o.night(1);
        is.due("night: without oil", o.grudge(2, 0), 37);
        // 99 at most only in the end, with or without a draught
        DoorsThatRemember g = house("p10,9;d0,1,1;d1,2,1;d0,2,2;l0,5,2;g0,0,90;g1,0,90;g2,0,95;u2,20;u0,4;");
        g.night(1);
        is.due("night: 99 at most without a draught", g.grudge(1, 0), 99);
        is.due("night: 99 at most with one", g.grudge(2, 0), 99);
        is.due("night: the draught behind the fading", g.grudge(0, 0), 4);
        DoorsThatRemember f = house("p10,9;d0,1,1;d1,2,1;l0,5,2;g0,0,12;g1,0,90;");
        f.night(1);
        is.due("night: cut behind the fading", f.grudge(1, 0), 93);
        DoorsThatRemember u = house("p0,0;d0,1,1;d1,2,1;l0,5,2;l0,5,2;u0,3;");
        u.oil(0);
        u.night(2);
        is.due("night: a draught slams an oiled one, too", u.grudge(0, 0), 6);
        is.due("night: against each", u.grudge(0, 1), 6);
        is.due("night: p0", u.grudge(1, 0), 0);
        for (int n : new int[] {MIN, -1, 0, 61, MAX}) {
            is.due("night: no such", u.night(n), BAD);
        }
        is.due("night: BAD cannot be undone", u.count(5), 2);
        for (int k = 1; k <= 166; k++) {
            is.due("night(60)", u.night(60), 2 + 60 * k);
        }
        is.due("night: above 9999", u.night(38), NO);
        is.due("night: above 9999", u.night(60), NO);
        is.due("night: BAD ahead of NO", u.night(61), BAD);
        is.due("night: NO changes nothing", u.count(4), 9962);
        is.due("night: 9999", u.night(37), 9999);
        is.due("night: above 9999", u.night(1), NO);
    }

    // Promise 12
    private static void undo() {
        DoorsThatRemember x = house("o5;d0,1,1;d1,2,0;l0,5,2;g0,0,20;");
        is.due("undo: nothing", x.undo(), NO);
        x.go(0, 0, true);
        x.oil(0);
        x.night(3);
        x.go(5, 0, true);
        x.go(0, 5, true);
        x.oil(-1);
        x.night(0);
        is.due("undo: three can be", x.count(5), 3);
        is.due("undo: night", x.undo(), 2);
        is.due("undo: nights", x.count(4), 0);
        is.due("undo: oil lasts", x.door(0, 3), 5);
        is.due("undo: grudge", x.grudge(0, 0), 25);
        is.due("undo: oil", x.undo(), 1);
        is.due("undo: oil", x.door(0, 3), 0);
        is.due("undo: go", x.undo(), 0);
        is.due("undo: the grudge", x.grudge(0, 0), 20);
        is.due("undo: the room", x.lodger(0, 0), 0);
        is.due("undo: the minutes", x.count(3), 0);
        is.due("undo: nothing", x.undo(), NO);
        for (int k = 0; k < 11; k++) {
            x.night(1 + k);
        }
        is.due("undo: the last 8", x.count(5), 8);
        for (int k = 7; k >= 0; k--) {
            is.due("undo: of 8", x.undo(), k);
        }
        is.due("undo: as behind the third", x.count(4), 6);
        is.due("undo: nothing", x.undo(), NO);
        is.due("undo: NO changes nothing", x.count(4), 6);
        x.night(1);
        x.keep();
        x.undo();
        is.due("undo: what is kept stays", x.count(6), 1);
        x.go(0, 0, true);
        x.undo();
        x.go(0, 0, false);
        is.due("undo: and go again", x.count(5), 1);
    }

    private static final String RING =
        "r6;d0,1,0;d0,1,1;d1,2,2;d2,3,3;d3,0,4;l0,5,2;l4,5,2;g0,0,9;g1,0,4;g2,0,2;g3,0,1;g4,0,5;g0,1,1;g1,1,0;";

    // Promise 13
    private static void way() {
        DoorsThatRemember x = house(RING);
        // one way round: 5 + 3; the other: 6 + 2
        is.due("way: two of 8", x.way(0, 0, 2), 8);
        is.due("way: back", x.way(0, 2, 0), 8);
        is.due("way: by the better of two doors", x.way(0, 0, 1), 5);
        is.due("way: of another lodger", x.way(1, 0, 1), 1);
        is.due("way: of another lodger", x.way(1, 0, 2), 2);
        is.due("way: the same room", x.way(0, 5, 5), 0);
        is.due("way: none", x.way(0, 0, 4), NONE);
        is.due("way: none", x.way(0, 4, 5), NONE);
        x.oil(0);
        is.due("way: by an oiled one", x.way(0, 0, 2), 4);
        is.due("way: nothing changes", x.count(3), 0);
        is.due("way: nothing wears", x.grudge(0, 0), 9);
        x.night(2);
        is.due("way: as the doors are now", x.way(0, 0, 1), 3);
        for (int k : new int[] {MIN, -1, 6, MAX}) {
            is.due("way: no such lodger", x.way(k, 0, 1), BAD);
            is.due("way: no such room", x.way(0, k, 1), BAD);
            is.due("way: no such room", x.way(0, 1, k), BAD);
            is.due("way: BAD ahead of NONE", x.way(k, 0, 4), BAD);
        }
        is.due("way: lodger 2 of 2", x.way(2, 0, 1), BAD);
        DoorsThatRemember far = house("r6;d0,1,0;d1,2,0;d2,3,0;d3,4,0;d4,5,0;l0,5,5;"
            + "g0,0,99;g1,0,99;g2,0,99;g3,0,99;g4,0,99;");
        is.due("way: the longest", far.way(0, 0, 5), 500);
        is.due("way: the longest, back", far.way(0, 5, 0), 500);
    }

    // Promise 14
    private static void first() {
        DoorsThatRemember x = house(RING);
        is.due("first: the lowest of two", x.first(0, 0, 2), 1);
        is.due("first: back", x.first(0, 2, 0), 2);
        is.due("first", x.first(0, 3, 0), 4);
        is.due("first: the same room", x.first(0, 1, 1), NONE);
        is.due("first: no way", x.first(0, 0, 5), NONE);
        is.due("first: of another lodger", x.first(1, 0, 1), 1);
        x.oil(4);
        is.due("first: by an oiled one", x.first(0, 0, 2), 4);
        x.oil(0);
        x.oil(1);
        is.due("first: the lowest", x.first(0, 0, 1), 0);
        for (int k : new int[] {MIN, -1, 6, MAX}) {
            is.due("first: no such lodger", x.first(k, 0, 1), BAD);
            is.due("first: no such room", x.first(0, k, 1), BAD);
            is.due("first: no such room", x.first(0, 1, k), BAD);
            is.due("first: BAD ahead of NONE", x.first(k, 1, 1), BAD);
        }
        is.due("first: lodger 2 of 2", x.first(2, 0, 1), BAD);
    }

    // Promise 15
    private static void inTime() {
        DoorsThatRemember x = house(RING);
        is.due("inTime: as it is", x.inTime(0, 8), 0);
        is.due("inTime: the lowest of one", x.inTime(0, 7), 1);
        is.due("inTime: door 0 alone", x.inTime(0, 4), 1);
        is.due("inTime: door 4 alone", x.inTime(0, 3), 16);
        is.due("inTime: the lowest of two", x.inTime(0, 2), 5);
        is.due("inTime: one minute", x.inTime(0, 1), NONE);
        is.due("inTime: none", x.inTime(1, 600), NONE);
        is.due("inTime: nothing is oiled", x.door(0, 3), 0);
        x.oil(0);
        is.due("inTime: oiled as well", x.inTime(0, 2), 4);
        x.go(0, 0, false);
        x.go(0, 2, false);
        is.due("inTime: he is there", x.inTime(0, 0), 0);
        // two small ones or a great one: fewest goes ahead of lowest
        DoorsThatRemember f = house("d0,1,0;d1,2,1;d0,2,2;l0,5,2;g0,0,9;g1,0,9;g2,0,50;");
        is.due("inTime: fewest", f.inTime(0, 2), 4);
        is.due("inTime: of fewest the lowest", f.inTime(0, 11), 1);
        is.due("inTime: 600", f.inTime(0, 600), 0);
        is.due("inTime: all doors", house("d0,1,0;l0,5,1;g0,0,1;").inTime(0, 1), 1);
        for (int k : new int[] {MIN, -1, 601, MAX}) {
            is.due("inTime: no such lodger", x.inTime(k, 5), BAD);
            is.due("inTime: no such m", x.inTime(0, k), BAD);
            is.due("inTime: BAD ahead of NONE", x.inTime(1, k), BAD);
        }
        is.due("inTime: lodger 2 of 2", x.inTime(2, 5), BAD);
    }

    // Promise 16
    private static void rooms() {
        // both have to go to room 0: one of them lives there
        DoorsThatRemember x = house("d0,1,0;d1,2,1;l2,5,0;l2,3,0;g0,0,4;g0,1,4;");
        is.due("rooms: sum", x.rooms(-1), 5);
        is.due("rooms: of several the first", x.rooms(0), 0);
        is.due("rooms: of several the first", x.rooms(1), 1);
        x.go(0, 1, true);
        x.go(0, 0, true);
        is.due("rooms: the grudge counts", x.rooms(1), 1);
        is.due("rooms: for the angry one room 0", x.rooms(0), 0);
        x.oil(0);
        is.due("rooms: as doors are now", x.rooms(-1), 1);
        is.due("rooms: nobody goes", x.lodger(1, 0), 2);
        DoorsThatRemember y = house("d0,1,0;d1,2,1;l2,5,0;l2,3,0;g0,1,4;");
        is.due("rooms: least together", y.rooms(-1), 1);
        is.due("rooms: the one in room 1", y.rooms(0), 1);
        is.due("rooms: the one in room 0", y.rooms(1), 0);
        is.due("rooms: one alone", house("d0,1,0;l2,5,0;").rooms(-1), 0);
        is.due("rooms: one alone", house("d0,1,0;l2,5,0;").rooms(0), 0);
        DoorsThatRemember many = house("r2;d0,1,0;l0,1,0;l0,1,0;l0,1,0;");
        is.due("rooms: more lodgers than rooms", many.rooms(-1), NONE);
        is.due("rooms: more lodgers than rooms", many.rooms(2), NONE);
        is.due("rooms: BAD ahead of NONE", many.rooms(3), BAD);
        DoorsThatRemember apart = house("r4;d0,1,0;d2,3,0;l0,1,0;l0,1,0;l0,1,0;");
        is.due("rooms: no way for the third", apart.rooms(0), NONE);
        DoorsThatRemember four = house("r6;d0,1,0;d2,3,0;l5,1,3;l5,1,3;l5,1,0;l5,1,5;");
        int[] want = {2, 3, 0, 5};
        for (int i = 0; i < 4; i++) {
            is.due("rooms(" + i + ")", four.rooms(i), want[i]);
        }
        is.due("rooms: four", four.rooms(-1), 1);
        for (int i : new int[] {MIN, -2, 4, MAX}) {
            is.due("rooms: no such", four.rooms(i), BAD);
        }
    }

    private static final String CHAIN =
        "p5,1;o9;d0,1,1;d1,2,2;d0,2,2;l0,5,2;l0,5,1;g0,0,80;g1,0,10;g0,1,9;g2,1,60;u2,2;";

    // Promise 17
    private static void behind() {
        DoorsThatRemember x = house(CHAIN);
        DoorsThatRemember y = house(CHAIN);
        x.oil(1);
        y.oil(1);
        for (int n = 0; n <= 60; n++) {
            if (n > 0) {
                y.night(1);
            }
            for (int d = 0; d < 3; d++) {
                is.due("behind(" + n + ", " + d + ", 0)", x.behind(n, d, 0), y.grudge(d, 0));
                is.due("behind(" + n + ", " + d + ", 1)", x.behind(n, d, 1), y.grudge(d, 1));
            }
        }
        is.due("behind: nothing changes", x.count(4), 0);
        is.due("behind: nothing changes", x.grudge(0, 0), 80);
        is.due("behind: nothing changes", x.door(1, 3), 9);
        is.due("behind: nothing to be undone", x.count(5), 1);
        for (int k : new int[] {MIN, -1, 61, MAX}) {
            is.due("behind: no such n", x.behind(k, 0, 0), BAD);
            is.due("behind: no such door", x.behind(0, k, 0), BAD);
            is.due("behind: no such lodger", x.behind(0, 0, k), BAD);
        }
        is.due("behind: door 3 of 3", x.behind(0, 3, 0), BAD);
        is.due("behind: lodger 2 of 2", x.behind(0, 0, 2), BAD);
    }

    // Promise 18
    private static void worst() {
        DoorsThatRemember x = house(CHAIN);
        // 80, 10, 0; then 39, 44, 6; then 19, 40, 29; then 9, 28, 50
        is.due("worst: now", x.worst(0, 0), 0);
        is.due("worst: behind a night", x.worst(1, 0), 1);
        is.due("worst: behind two", x.worst(2, 0), 1);
        is.due("worst: behind three", x.worst(3, 0), 2);
        is.due("worst: the other's", x.worst(0, 1), 2);
        DoorsThatRemember none = house("d0,1,0;d1,2,1;d0,2,2;l0,5,2;g1,0,3;g2,0,3;");
        is.due("worst: of several the lowest", none.worst(2, 0), 1);
        is.due("worst: all at 0", none.worst(60, 0), 0);
        is.due("worst: nothing changes", none.count(4), 0);
        for (int k : new int[] {MIN, -1, 61, MAX}) {
            is.due("worst: no such n", x.worst(k, 0), BAD);
            is.due("worst: no such lodger", x.worst(0, k), BAD);
        }
        is.due("worst: lodger 2 of 2", x.worst(0, 2), BAD);
    }

    // Promise 19
    private static void stop() {
        // door 0 and door 1 pass on to door 2
        DoorsThatRemember x = house("p10,0;o1;d0,1,2;d1,2,2;d0,2,2;d0,2,0;l0,5,2;g0,0,40;g1,0,20;g3,0,30;");
        is.due("stop: as it is", x.stop(1, 2, 0, 61), 0);
        is.due("stop: the lowest of one", x.stop(1, 2, 0, 60), 1);
        is.due("stop: door 1 is not enough", x.stop(1, 2, 0, 40), 1);
        is.due("stop: both", x.stop(1, 2, 0, 20), 3);
        is.due("stop: door 3, too, behind two", x.stop(2, 2, 0, 50), 1);
        is.due("stop: not its own oil", x.stop(1, 2, 0, 1), 3);
        is.due("stop: now", x.stop(0, 0, 0, 40), NONE);
        is.due("stop: now", x.stop(0, 0, 0, 41), 0);
        is.due("stop: for more than n nights", x.stop(60, 2, 0, 1), 3);
        is.due("stop: nothing is oiled", x.door(0, 3), 0);
        is.due("stop: none", house("p10,0;d0,1,0;d1,2,1;l0,5,2;g0,0,5;").stop(9, 0, 0, 5), NONE);
        // 10 by door 2 or 5 and 5 by doors 0 and 1: one goes ahead of two
        DoorsThatRemember f = house("p10,0;d0,1,3;d1,2,3;d0,2,3;d0,1,3;l0,5,2;g0,0,5;g1,0,5;g2,0,10;");
        is.due("stop: fewest", f.stop(1, 3, 0, 11), 4);
        is.due("stop: of fewest the lowest", f.stop(1, 3, 0, 10), 5);
        f.oil(3);
        is.due("stop: oiled already", f.stop(2, 3, 0, 1), 0);
        is.due("stop: oil runs out", f.stop(3, 3, 0, 11), 4);
        is.due("stop: nothing changes", f.count(4), 0);
        for (int k : new int[] {MIN, -1, 100, MAX}) {
            is.due("stop: no such n", x.stop(k, 0, 0, 1), BAD);
            is.due("stop: no such door", x.stop(1, k, 0, 1), BAD);
            is.due("stop: no such lodger", x.stop(1, 0, k, 1), BAD);
            is.due("stop: no such g", x.stop(1, 0, 0, k), BAD);
        }
        is.due("stop: 61", x.stop(61, 0, 0, 1), BAD);
        is.due("stop: g of 0", x.stop(0, 0, 0, 0), BAD);
        is.due("stop: g of 99", x.stop(0, 0, 0, 99), 0);
        is.due("stop: door 4 of 4", x.stop(0, 4, 0, 99), BAD);
        is.due("stop: lodger 1 of 1", x.stop(0, 0, 1, 99), BAD);
    }

    // Promise 20
    private static void how() {
        DoorsThatRemember x = house("w3;d0,1,0;d1,2,1;l0,5,2;l0,20,2;g0,0,4;g1,1,95;");
        is.due("how: never", x.how(0, 0, 0, 5, 0), 1);
        is.due("how: never", x.how(0, 0, 0, 5, 1), 0);
        is.due("how: not so", x.how(0, 0, 0, 6, 0), 0);
        is.due("how: not so", x.how(0, 0, 0, 6, 1), NONE);
        // 4: gently 1, slammed 9; gently twice 0; then 6 either way; slammed twice 14
        is.due("how: twice gently", x.how(0, 0, 2, 1, 0), 1);
        is.due("how: once slammed, in two ways", x.how(0, 0, 2, 7, 0), 2);
        is.due("how: once", x.how(0, 0, 2, 7, 1), 1);
        is.due("how: twice slammed", x.how(0, 0, 2, 15, 1), 2);
        is.due("how: the fewest of several", x.how(1, 1, 2, 97, 0), 1);
        // gently 7 times it is 74, and slammed then 94
        is.due("how: 99 at most", x.how(1, 1, 8, 100, 0), 127);
        is.due("how: the last one and another", x.how(1, 1, 8, 100, 1), 2);
        is.due("how: 99 at most", x.how(1, 1, 5, 100, 0), 16);
        is.due("how: the last one", x.how(1, 1, 5, 100, 1), 1);
        is.due("how: 8 times gently", x.how(0, 0, 8, 1, 1), 0);
        is.due("how: 8 times slammed", x.how(0, 0, 8, 45, 0), 1);
        is.due("how: 8 times slammed", x.how(0, 0, 8, 45, 1), 8);
        x.oil(0);
        x.go(0, 0, true);
        x.night(3);
        is.due("how: the first grudge", x.how(0, 0, 0, 5, 0), 1);
        is.due("how: never oiled", x.how(0, 0, 1, 10, 0), 1);
        is.due("how: nothing changes", x.count(4), 3);
        for (int k : new int[] {MIN, -1, 101, MAX}) {
            is.due("how: no such lodger", x.how(k, 0, 1, 1, 0), BAD);
            is.due("how: no such door", x.how(0, k, 1, 1, 0), BAD);
            is.due("how: no such k", x.how(0, 0, k, 1, 0), BAD);
            is.due("how: no such m", x.how(0, 0, 1, k, 0), BAD);
            is.due("how: no such what", x.how(0, 0, 1, 1, k), BAD);
        }
        is.due("how: lodger 2 of 2", x.how(2, 0, 0, 5, 0), BAD);
        is.due("how: door 2 of 2", x.how(0, 2, 0, 5, 0), BAD);
        is.due("how: 9 times", x.how(0, 0, 9, 5, 0), BAD);
        is.due("how: 0 minutes", x.how(0, 0, 1, 0, 0), BAD);
        is.due("how: what 2", x.how(0, 0, 1, 1, 2), BAD);
        is.due("how: BAD ahead of NONE", x.how(0, 0, 0, 0, 1), BAD);
    }

    // Promise 21
    private static void fresh() {
        DoorsThatRemember x = house("d0,1,0;d1,2,1;d0,2,2;l0,5,2;l0,5,2;l0,5,2;"
            + "g0,0,99;g0,1,99;g0,2,98;g1,0,5;g2,2,4;");
        is.due("fresh: cut", x.fresh(0), 98);
        is.due("fresh: cut", x.fresh(1), 1);
        is.due("fresh: cut", x.fresh(2), 1);
        is.due("fresh: the lowest of those of the same", x.fresh(-1), 1);
        x.oil(0);
        is.due("fresh: oil does not matter", x.fresh(0), 98);
        x.go(0, 2, true);
        is.due("fresh: its grudges now", x.fresh(2), 3);
        x.night(1);
        is.due("fresh: behind a night", x.fresh(1), 1);
        is.due("fresh: behind a night", x.fresh(0), 97);
        DoorsThatRemember last = house("d0,1,0;d1,2,1;d0,2,2;l0,5,2;g0,0,2;g1,0,3;g2,0,1;");
        is.due("fresh: the last one", last.fresh(-1), 2);
        is.due("fresh: the first one", house("d0,1,0;d1,2,1;l0,5,2;g1,0,3;").fresh(-1), 0);
        for (int d : new int[] {MIN, -2, 3, 8, MAX}) {
            is.due("fresh: no such", x.fresh(d), BAD);
        }
    }

    // Promise 22
    private static void week() {
        // z 0: DRAW 1, then 6152 x 6152 = 37847104, modulo 65521 it is 41487; by 8, cut: 0 and 5185, an odd one
        DoorsThatRemember x = house("p0,0;w1;d0,1,0;d1,2,1;l0,5,2;l2,3,0;g0,1,4;u0,1;");
        is.due("week: one night, gently", x.week(0, 1, 0), 1 + 5 + 4 + 1);
        is.due("week: one night, gently", x.week(0, 1, 1), 4 - 2 + 2);
        is.due("week: nothing changes", x.count(3), 0);
        is.due("week: nothing changes", x.count(4), 0);
        is.due("week: nothing changes", x.grudge(0, 1), 4);
        is.due("week: nothing changes", x.lodger(1, 0), 2);
        is.due("week: nothing to be undone", x.count(5), 0);
        // behind the first night door 0 has 1 and 3; then LODGER 1 slams: 1 + 4 + 7 + 4
        is.due("week: two nights", x.week(0, 2, 0), 11 + 16);
        is.due("week: two nights", x.week(0, 2, 1), 2 + 10 + 6);
        // z 1: x 7920, 62726400, modulo 65521: 22803; LODGER 1, by 8: 2850, gently; oil for all
        x.oil(0);
        x.oil(1);
        is.due("week: oiled", x.week(1, 1, 0), 4);
        x.go(0, 0, false);
        is.due("week: not the minutes ahead", x.week(1, 1, 0), 4);
        DoorsThatRemember stays = house("p0,0;d0,1,0;l0,5,2;l2,3,2;u0,1;");
        is.due("week: no way", stays.week(7, 60, 0), 0);
        is.due("week: nights go by all the same", stays.week(7, 60, 1), 120);
        // slamming one of two doors, he goes back by the other
        DoorsThatRemember two = house("p0,0;d0,1,0;d0,1,1;l0,5,1;");
        is.due("week: first as things are then", two.week(0, 2, 0), 2 + 2);
        is.due("week: first as things are then", two.week(0, 2, 1), 10);
        DoorsThatRemember late = house("p0,0;d0,1,0;l0,5,1;");
        for (int k = 0; k < 166; k++) {
            late.night(60);
        }
        late.night(39);
        is.due("week: behind night 9999", late.week(0, 60, 0) > 0);
        for (int k : new int[] {MIN, -1, 10000, MAX}) {
            is.due("week: no such z", x.week(k, 1, 0), BAD);
            is.due("week: no such n", x.week(1, k, 0), BAD);
            is.due("week: no such what", x.week(1, 1, k), BAD);
        }
        is.due("week: 0 nights", x.week(1, 0, 0), BAD);
        is.due("week: 61 nights", x.week(1, 61, 0), BAD);
        is.due("week: what 2", x.week(1, 1, 2), BAD);
        is.due("week: z 9999", x.week(9999, 60, 0) > 0);
    }

    // Promise 23
    private static void keep() {
        DoorsThatRemember x = house("d0,1,1;d1,2,0;l0,5,2;g0,0,20;");
        x.go(0, 0, true);
        is.due("keep", x.keep(), 1);
        is.due("keep: the house stays", x.lodger(0, 0), 1);
        is.due("keep: cannot be undone", x.count(5), 1);
        is.due("keep", x.keep(), 2);
        is.due("keep: full", x.keep(), FULL);
        is.due("keep: FULL changes nothing", x.count(6), 2);
        x.back();
        is.due("keep: again", x.keep(), 2);
    }

    // Promise 24
    private static void back() {
        DoorsThatRemember x = house("o9;d0,1,1;d1,2,0;l0,5,2;g0,0,20;");
        is.due("back: nothing", x.back(), NO);
        x.go(0, 0, true);
        x.oil(1);
        x.night(2);
        int grudge = x.grudge(0, 0);
        x.keep();
        x.go(0, 0, true);
        x.oil(0);
        x.night(5);
        x.keep();
        int later = x.grudge(0, 0);
        x.go(0, 0, true);
        x.night(1);
        Checks.tell(x, "abc");
        is.due("back", x.back(), 1);
        is.due("back: the last one", x.grudge(0, 0), later);
        is.due("back: nights", x.count(4), 7);
        is.due("back: nothing can be undone", x.undo(), NO);
        is.due("back: the text stays", x.count(7), 3 + "o9;d0,1,1;d1,2,0;l0,5,2;g0,0,20;".length());
        is.due("back: the one ahead", x.back(), 0);
        is.due("back: grudge", x.grudge(0, 0), grudge);
        is.due("back: nights", x.count(4), 2);
        is.due("back: minutes", x.count(3), 21);
        is.due("back: oil", x.door(1, 3), 7);
        is.due("back: oil", x.door(0, 3), 0);
        is.due("back: the room", x.lodger(0, 0), 1);
        is.due("back: kept no more", x.back(), NO);
        x.night(1);
        is.due("back: NO leaves what can be undone", x.back(), NO);
        is.due("back: NO leaves what can be undone", x.count(5), 1);
    }

    // Promise 25
    private static void count() {
        DoorsThatRemember x = house("r6;d0,1,0;d1,2,0;d2,3,0;l0,5,2;l0,5,2;l0,5,2;l0,5,2;");
        x.go(0, 0, true);
        x.go(0, 0, true);
        x.night(60);
        x.keep();
        int[] counts = {6, 3, 4, 7, 60, 3, 1, 52};
        for (int what = 0; what < counts.length; what++) {
            is.due("count(" + what + ")", x.count(what), counts[what]);
        }
        for (int what : new int[] {MIN, -1, 8, MAX}) {
            is.due("count: no such", x.count(what), BAD);
        }
    }
}
