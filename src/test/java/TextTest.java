/** Terms 1 and promises 1 to 5: THE TEXT, its items, a new object. */
public final class TextTest {
    private static final int BAD = Checks.BAD, NO = Checks.NO, FULL = Checks.FULL, NONE = Checks.NONE;
    private static final Checks is = new Checks();
    // A door and a lodger: what a text needs to be laid.
    private static final String LEAST = "d0,1,0;l0,1,0;";

    public static void main(String[] args) {
        text();
        roomItems();
        doorItems();
        lodgerItems();
        grudgeItems();
        passingItems();
        wearItems();
        oilItems();
        draughtItems();
        fault();
        laid();
        promiseNewObject();
        promiseWrite();
        promiseWipe();
        promiseFault();
        promiseLay();
        is.close();
    }

    private static DoorsThatRemember house(String text) {
        return Checks.house(text);
    }

    private static void noFault(String text) {
        is.due("fault of " + text, Checks.faultOf(text), NONE);
    }

    /** Laid as the text tells by an object that has laid another text more than once, and looked for its fault. */
    private static DoorsThatRemember laidBehind(String ahead, String text) {
        DoorsThatRemember x = house(ahead);
        x.lay();
        x.fault();
        x.wipe();
        Checks.tell(x, text);
        is.due("lay of " + text + " behind " + ahead, x.lay() > 0);
        return x;
    }

    /** The last item alone is faulty: it begins where the text in front of it ends. */
    private static void faultBehind(String ahead, String item) {
        is.due("fault of " + ahead + item, Checks.faultOf(ahead + item), ahead.length());
    }

    /** An item of one letter and one number may tell low to high, and nothing else of two figures. */
    private static void numbersFit(String before, String behind, int low, int high) {
        for (int v = 0; v <= 99; v++) {
            String item = before + v + behind;
            is.due("fault of " + item, Checks.faultOf("d0,1,0;l0,1,0;" + item), v >= low && v <= high ? NONE : 14);
        }
    }

    // ---- the text and its items

    private static void text() {
        is.sentence("Terms 1", "A TEXT is bytes (300 at most)");
        DoorsThatRemember x = new DoorsThatRemember();
        String most = LEAST + "w1;".repeat(94) + "o09;";
        is.due("telling 300 bytes", Checks.tell(x, most), 300);
        is.due("lay of 300 bytes", x.lay(), 1);
        x.oil(0);
        is.due("nights of oil by the last of 300 bytes", x.door(0, 3), 9);
        is.due("a byte more", x.write(1, ';'), FULL);
        is.due("bytes", x.count(7), 300);
        DoorsThatRemember y = Checks.told(LEAST + "w1;".repeat(94) + "o9;");
        is.due("the 300th byte", y.write(1, ';'), 300);

        is.sentence("Terms 1", "ITEMS one behind the other");
        noFault("w1;o1;w2;o2;");
        for (String between : new String[] {" ", ";", ",", "\n", "\0"}) {
            faultBehind("w1;", between + "o1;");
        }
        faultBehind("", " w1;");
        faultBehind("w1;", " ");

        is.sentence("Terms 1", "each a letter");
        for (int b = 0; b < 256; b++) {
            String letter = String.valueOf((char) b);
            is.due("fault of byte " + b + " and 5;", Checks.faultOf(letter + "5;"), "rwo".indexOf(b) >= 0 ? NONE : 0);
            is.due("fault of byte " + b + " and 1,2;", Checks.faultOf(letter + "1,2;"), b == 'p' ? NONE : 0);
            is.due("fault of byte " + b + " and 0,1,0;", Checks.faultOf(letter + "0,1,0;"), "dl".indexOf(b) >= 0 ? NONE : 0);
            is.due("fault of byte " + b + " and 0,0,0;", Checks.faultOf(LEAST + letter + "0,0,0;"), b == 'g' ? NONE : 14);
            is.due("fault of byte " + b + " and 0,0;", Checks.faultOf(LEAST + letter + "0,0;"),
                "pu".indexOf(b) >= 0 ? NONE : 14);
        }
        faultBehind("", "5;");
        faultBehind("", "ww5;");

        is.sentence("Terms 1", "numbers (one or two figures)");
        for (String item : new String[] {"r2;", "r02;", "w0;", "w00;", "o01;", "p10,0;", "p01,09;", "d00,01,07;", "l0,01,05;"}) {
            noFault(item);
        }
        noFault(LEAST + "g00,00,99;u00,20;");
        for (String item : new String[] {"r;", "r002;", "w;", "w000;", "o;", "o001;", "p;", "p,0;", "p0,;", "p010,0;",
            "p1,001;", "d,1,0;", "d0,,0;", "d0,1,;", "d000,1,0;", "d0,001,0;", "d0,1,000;", "l,1,0;", "l0,,0;", "l0,1,;",
            "l0,001,0;", "g,0,0;", "g0,,0;", "g0,0,;", "g0,0,000;", "g0,0,100;", "u,0;", "u0,;", "u0,000;",
            "w-1;", "w+1;", "w1 ;", "w 1;", "w1.0;", "w\u00b2;", "wa;", "w1a;"}) {
            faultBehind(LEAST, item);
        }
        for (int b = 0; b < 256; b++) {
            String sign = String.valueOf((char) b);
            boolean figure = b >= '0' && b <= '9';
            is.due("fault of w, byte " + b + " and ;", Checks.faultOf("w" + sign + ";"), figure ? NONE : 0);
            is.due("fault of w0, byte " + b + " and 9;", Checks.faultOf("w0" + sign + "9;"), b == ';' ? 3 : 0);
        }

        is.sentence("Terms 1", "parted by , and ; (behind the last one, too)");
        for (int b = 0; b < 256; b++) {
            String sign = String.valueOf((char) b);
            is.due("fault of w5 and byte " + b, Checks.faultOf("w5" + sign), b == ';' ? NONE : 0);
            is.due("fault of p1, byte " + b + " and 1;", Checks.faultOf("p1" + sign + "1;"), b == ',' ? NONE : 0);
            is.due("fault of d0,1, byte " + b + " and 0;", Checks.faultOf("d0,1" + sign + "0;"), b == ',' ? NONE : 0);
        }
        for (String item : new String[] {"w", "w1", "w1,", "w1,;", "w1,1;", "r3,3;", "o1,1;", "p1;", "p1,", "p1,1", "p1,1,1;",
            "p1;1;", "d0;1,0;", "d0,1;", "d0,1;0;", "d0,1,", "d0,1,0", "d0,1,0,", "d0,1,0,0;", "l0,1;", "l0,1,0", "l0,1,0,0;",
            "g0;", "g0,0;", "g0,0,0", "g0,0,0,0;", "u0;", "u0,0", "u0,0,0;", "w1w1;", "w,1;", "p1,,1;"}) {
            faultBehind(LEAST, item);
        }
    }

    // ---- rooms

    private static void roomItems() {
        is.sentence("Terms 1", "rN there are N ROOMS, 0 to N less 1");
        for (int n = 2; n <= 6; n++) {
            DoorsThatRemember x = house("r" + n + ";d" + (n - 1) + ",0,0;l" + (n - 1) + ",1," + (n - 1) + ";");
            is.due("rooms of r" + n, x.count(0), n);
            is.due("way to the last room", x.way(0, 0, n - 1), 1);
            is.due("way to one room more", x.way(0, 0, n), BAD);
            is.due("way from one room more", x.way(0, n, 0), BAD);
            faultBehind("r" + n + ";", "d0," + n + ",0;");
            faultBehind("r" + n + ";", "d" + n + ",0,0;");
        }

        is.sentence("Terms 1", "2 to 6");
        for (int n = 0; n <= 99; n++) {
            is.due("fault of r" + n + ";", Checks.faultOf("w1;r" + n + ";"), n >= 2 && n <= 6 ? NONE : 3);
        }

        is.sentence("Terms 1", "3 without");
        is.due("rooms", house(LEAST).count(0), 3);
        noFault("d2,1,0;");
        faultBehind("", "d3,1,0;");
        is.due("rooms, six in the house ahead", laidBehind("r6;" + LEAST, LEAST).count(0), 3);

        is.sentence("Terms 1", "no d told ahead of it");
        faultBehind("d0,1,0;", "r3;");
        faultBehind("r4;d0,1,0;", "r4;");
        faultBehind("d0,1,0;l0,1,0;w1;", "r6;");
        noFault("l0,1,0;w1;o1;p1,1;r6;d5,4,0;");

        is.sentence("Terms 1", "of several the last one counts)");
        is.due("rooms of r2;r6;r4;", house("r2;r6;r4;d3,0,0;l3,1,0;").count(0), 4);
        is.due("rooms of r6;r2;", house("r6;r2;" + LEAST).count(0), 2);
        faultBehind("r6;r2;", "d0,2,0;");
        noFault("r2;r6;d0,5,0;");
    }

    // ---- doors

    private static void doorItems() {
        is.sentence("Terms 1", "dA,B,X a DOOR between ROOMS A and B");
        for (int a = 0; a < 6; a++) {
            int b = (a + 2) % 6;
            DoorsThatRemember x = house("r6;d" + a + "," + b + ",0;l" + b + ",1," + a + ";");
            is.due("A of d" + a + "," + b, x.door(0, 0), a);
            is.due("B of d" + a + "," + b, x.door(0, 1), b);
            is.due("through it from B", x.go(0, 0, false), 1);
            is.due("into A", x.lodger(0, 0), a);
            is.due("through it from A", x.go(0, 0, false), 1);
            is.due("into B", x.lodger(0, 0), b);
        }

        is.sentence("Terms 1", "unlike");
        for (int a = 0; a < 6; a++) {
            faultBehind("r6;", "d" + a + "," + a + ",0;");
        }
        faultBehind("", "d01,1,0;");

        is.sentence("Terms 1", "below N as told till then");
        for (int n = 2; n <= 6; n++) {
            for (int a = 0; a < 8; a++) {
                int b = a == 0 ? 1 : 0;
                is.due("d" + a + " of r" + n, Checks.faultOf("r" + n + ";d" + a + "," + b + ",0;"), a < n ? NONE : 3);
                is.due("d.," + a + " of r" + n, Checks.faultOf("r" + n + ";d" + b + "," + a + ",0;"), a < n ? NONE : 3);
            }
        }
        faultBehind("", "d0,3,0;r4;");
        faultBehind("", "d3,0,0;r6;");
        faultBehind("r2;", "d0,99,0;");

        is.sentence("Terms 1", "that passes grudges on to DOOR X (0 to 7;");
        numbersFit("d0,1,", ";", 0, 7);
        DoorsThatRemember x = house("p10,0;" + "d0,1,7;".repeat(7) + "d0,1,0;l0,1,0;g3,0,9;g7,0,5;");
        x.night(1);
        is.due("grudge of 7 by 3", x.grudge(7, 0), 9);
        is.due("grudge of 0 by 7", x.grudge(0, 0), 5);
        is.due("X of 6", x.door(6, 2), 7);

        is.sentence("Terms 1", "itself: to none");
        DoorsThatRemember self = house("p10,0;d0,1,0;d1,2,1;l0,1,0;g0,0,50;g1,0,7;");
        self.night(9);
        is.due("grudge of 0", self.grudge(0, 0), 50);
        is.due("grudge of 1", self.grudge(1, 0), 7);

        is.sentence("Terms 1", "8 at most, 0, 1, ..");
        is.due("doors", Checks.layOf("d0,1,0;".repeat(8) + "l0,1,0;"), 8);
        faultBehind("d0,1,0;".repeat(8), "d0,1,0;");
        DoorsThatRemember eight = house("r6;d0,1,0;d0,2,0;d0,3,0;d0,4,0;d0,5,0;d1,2,0;d1,3,0;d1,4,0;l0,1,0;");
        int[] b = {1, 2, 3, 4, 5, 2, 3, 4};
        for (int d = 0; d < 8; d++) {
            is.due("A of the door told as number " + d, eight.door(d, 0), d < 5 ? 0 : 1);
            is.due("B of the door told as number " + d, eight.door(d, 1), b[d]);
        }
        is.due("no door 8", eight.door(8, 0), BAD);
    }

    // ---- lodgers

    private static void lodgerItems() {
        is.sentence("Terms 1", "lR,T,E a LODGER in ROOM R (0 to 5)");
        numbersFit("l", ",1,0;", 0, 5);
        for (int r = 0; r < 6; r++) {
            is.due("room of l" + r, house("r6;d0,1,0;l" + r + ",1,0;").lodger(0, 0), r);
        }

        is.sentence("Terms 1", "of TEMPER T (1 to 20)");
        numbersFit("l0,", ",0;", 1, 20);
        for (int t = 1; t <= 20; t++) {
            is.due("temper " + t, house("d0,1,0;l0," + t + ",0;").lodger(0, 1), t);
        }

        is.sentence("Terms 1", "who has to go to ROOM E (0 to 5)");
        numbersFit("l0,1,", ";", 0, 5);
        for (int e = 0; e < 6; e++) {
            is.due("E of l0,1," + e, house("r6;d0,1,0;l0,1," + e + ";").lodger(0, 2), e);
        }

        is.sentence("Terms 1", "4 at most, 0, 1, ..");
        DoorsThatRemember four = house("d0,1,0;l0,5,2;l1,6,1;l2,7,0;l1,8,2;");
        is.due("lodgers", four.count(2), 4);
        for (int i = 0; i < 4; i++) {
            is.due("temper of the lodger told as number " + i, four.lodger(i, 1), 5 + i);
        }
        is.due("no lodger 4", four.lodger(4, 1), BAD);
        faultBehind("l0,1,0;".repeat(4), "l0,1,0;");
        faultBehind("l0,1,0;".repeat(4) + "d0,1,0;", "l0,1,0;");
    }

    // ---- grudges

    private static void grudgeItems() {
        is.sentence("Terms 1", "gD,I,G DOOR D has a GRUDGE of G (0 to 99) against LODGER I at first");
        for (int g = 0; g <= 99; g++) {
            DoorsThatRemember x = house("d0,1,0;d1,2,0;l0,1,0;l0,1,0;g1,0," + g + ";");
            is.due("grudge told as " + g, x.grudge(1, 0), g);
            is.due("of another door", x.grudge(0, 0), 0);
            is.due("against another lodger", x.grudge(1, 1), 0);
        }
        DoorsThatRemember last = house("d0,1,7;".repeat(8) + "l0,1,0;".repeat(4) + "g7,3,99;g0,3,98;g7,0,97;");
        is.due("of the last door against the last lodger", last.grudge(7, 3), 99);
        is.due("of the first door against the last lodger", last.grudge(0, 3), 98);
        is.due("of the last door against the first lodger", last.grudge(7, 0), 97);

        is.sentence("Terms 1", "both told ahead");
        faultBehind("", "g0,0,0;");
        faultBehind("l0,1,0;", "g0,0,1;d0,1,0;");
        faultBehind("d0,1,0;", "g0,0,1;l0,1,0;");
        faultBehind(LEAST, "g1,0,1;d1,2,0;");
        faultBehind(LEAST, "g0,1,1;l0,1,0;");
        faultBehind("d0,1,0;".repeat(8) + "l0,1,0;".repeat(4), "g8,0,1;");
        faultBehind("d0,1,0;".repeat(8) + "l0,1,0;".repeat(4), "g0,4,1;");
        noFault(LEAST + "g0,0,1;d1,2,0;l0,1,0;g1,1,1;");

        is.sentence("Terms 1", "0 without");
        DoorsThatRemember x = house("d0,1,0;d1,2,0;l0,1,0;l0,1,0;");
        for (int k = 0; k < 4; k++) {
            is.due("grudge without g", x.grudge(k / 2, k % 2), 0);
        }
        is.due("grudge without g, 77 in the house ahead", laidBehind(LEAST + "g0,0,77;", LEAST).grudge(0, 0), 0);

        is.sentence("Terms 1", "the last one of each)");
        DoorsThatRemember y = house("d0,1,0;d1,2,0;l0,1,0;l0,1,0;g0,0,5;g0,1,6;g1,0,7;g0,0,8;g0,1,0;");
        is.due("grudge of 0 against 0", y.grudge(0, 0), 8);
        is.due("grudge of 0 against 1", y.grudge(0, 1), 0);
        is.due("grudge of 1 against 0", y.grudge(1, 0), 7);
    }

    // ---- passing on and fading

    private static void passingItems() {
        is.sentence("Terms 1", "pP,F each night P tenths (0 to 10) of a GRUDGE pass on");
        numbersFit("p", ",0;", 0, 10);
        for (int p = 0; p <= 10; p++) {
            DoorsThatRemember x = house("p" + p + ",0;d0,1,1;d1,2,1;l0,1,0;g0,0,90;");
            x.night(1);
            is.due("what stays at p" + p, x.grudge(0, 0), 90 - 9 * p);
            is.due("what passes on at p" + p, x.grudge(1, 0), 9 * p);
            x.night(1);
            is.due("each night at p" + p, x.grudge(0, 0), 90 - 9 * p - (90 - 9 * p) * p / 10);
        }

        is.sentence("Terms 1", "F (0 to 9) fade");
        numbersFit("p0,", ";", 0, 9);
        for (int f = 0; f <= 9; f++) {
            DoorsThatRemember x = house("p0," + f + ";d0,1,0;l0,1,0;g0,0,50;");
            x.night(1);
            is.due("grudge at F " + f, x.grudge(0, 0), 50 - f);
            x.night(2);
            is.due("grudge behind three nights at F " + f, x.grudge(0, 0), 50 - 3 * f);
        }

        is.sentence("Terms 1", "3, 1 without");
        DoorsThatRemember x = house("d0,1,1;d1,2,1;l0,1,0;g0,0,90;");
        x.night(1);
        is.due("what stays", x.grudge(0, 0), 90 - 27 - 1);
        is.due("what passed on", x.grudge(1, 0), 27 - 1);
        DoorsThatRemember again = laidBehind("p10,9;" + LEAST, "d0,1,1;d1,2,1;l0,1,0;g0,0,90;");
        again.night(1);
        is.due("what stays, p10,9 in the house ahead", again.grudge(0, 0), 62);

        is.sentence("Terms 1", "3, 1 without; of several such the last one counts");
        DoorsThatRemember y = house("p10,9;p1,2;p0,5;p2,3;d0,1,1;d1,2,1;l0,1,0;g0,0,90;");
        y.night(1);
        is.due("what stays", y.grudge(0, 0), 90 - 18 - 3);
        is.due("what passed on", y.grudge(1, 0), 18 - 3);
    }

    private static int wornBy(String items) {
        DoorsThatRemember x = house(items + "d0,1,0;l0,1,0;g0,0,50;");
        x.go(0, 0, false);
        return 50 - x.grudge(0, 0);
    }

    private static void wearItems() {
        is.sentence("Terms 1", "wW a gentle one wears a GRUDGE by W (0 to 9;");
        numbersFit("w", ";", 0, 9);
        for (int w = 0; w <= 9; w++) {
            is.due("worn by w" + w, wornBy("w" + w + ";"), w);
        }

        is.sentence("Terms 1", "0 to 9; 1 without");
        is.due("worn without w", wornBy(""), 1);
        DoorsThatRemember x = laidBehind("w7;" + LEAST, LEAST + "g0,0,50;");
        x.go(0, 0, false);
        is.due("grudge without w, w7 in the house ahead", x.grudge(0, 0), 49);

        is.sentence("Terms 1", "0 to 9; 1 without; of several such the last one counts");
        is.due("worn by w9;w0;w4;", wornBy("w9;w0;w4;"), 4);
        is.due("worn by w9;w0;", wornBy("w9;w0;"), 0);
    }

    private static int oilOf(String items) {
        DoorsThatRemember x = house(items + LEAST);
        x.oil(0);
        return x.door(0, 3);
    }

    private static void oilItems() {
        is.sentence("Terms 1", "oK oil lasts K nights (1 to 9;");
        numbersFit("o", ";", 1, 9);
        for (int k = 1; k <= 9; k++) {
            DoorsThatRemember x = house("o" + k + ";p0,0;d0,1,0;l0,1,0;g0,0,5;");
            x.oil(0);
            is.due("nights of oil by o" + k, x.door(0, 3), k);
            if (k > 1) {
                x.night(k - 1);
            }
            is.due("way behind " + (k - 1) + " nights", x.way(0, 0, 1), 1);
            x.night(1);
            is.due("way behind " + k + " nights", x.way(0, 0, 1), 6);
        }

        is.sentence("Terms 1", "2 without");
        is.due("nights of oil without o", oilOf(""), 2);
        DoorsThatRemember x = laidBehind("o7;" + LEAST, LEAST);
        x.oil(0);
        is.due("nights of oil without o, o7 in the house ahead", x.door(0, 3), 2);

        is.sentence("Terms 1", "2 without; of several such the last one counts");
        is.due("nights of oil by o9;o1;o4;", oilOf("o9;o1;o4;"), 4);
    }

    private static void draughtItems() {
        is.sentence("Terms 1", "uD,S a draught slams DOOR D (told ahead) each night");
        faultBehind("", "u0,0;");
        faultBehind("l0,1,0;", "u0,1;d0,1,0;");
        faultBehind(LEAST, "u1,1;d1,2,0;");
        faultBehind("d0,1,0;".repeat(8), "u8,1;");
        noFault("d0,1,0;u0,1;d0,1,0;u1,1;");
        DoorsThatRemember x = house("p0,0;d0,1,0;d1,2,0;l0,1,0;u1,3;");
        x.night(1);
        is.due("grudge of 1 behind a night", x.grudge(1, 0), 3);
        x.night(4);
        is.due("grudge of 1 behind five", x.grudge(1, 0), 15);
        is.due("grudge of 0", x.grudge(0, 0), 0);

        is.sentence("Terms 1", "S (0 to 20) more against each LODGER");
        numbersFit("u0,", ";", 0, 20);
        for (int s = 0; s <= 20; s++) {
            DoorsThatRemember y = house("p0,0;d0,1,0;" + "l0,1,0;".repeat(4) + "g0,2,30;u0," + s + ";");
            y.night(1);
            for (int i = 0; i < 4; i++) {
                is.due("grudge against " + i + " by u0," + s, y.grudge(0, i), i == 2 ? 30 + s : s);
            }
            is.due("draught", y.door(0, 4), s);
        }

        is.sentence("Terms 1", "the last one of each;");
        DoorsThatRemember y = house("d0,1,0;d1,2,0;l0,1,0;u0,20;u1,7;u0,3;");
        is.due("draught of 0", y.door(0, 4), 3);
        is.due("draught of 1", y.door(1, 4), 7);
        is.due("draught of u0,9;u0,0;", house(LEAST + "u0,9;u0,0;").door(0, 4), 0);

        is.sentence("Terms 1", "none without");
        is.due("draught of 0", house("d0,1,0;d1,2,0;l0,1,0;u1,7;").door(0, 4), 0);
        DoorsThatRemember z = laidBehind(LEAST + "u0,3;", LEAST);
        is.due("draught, u0,3 in the house ahead", z.door(0, 4), 0);
        z.night(60);
        is.due("grudge behind nights without one", z.grudge(0, 0), 0);
    }

    // ---- where the first fault is, and what can be laid

    private static void fault() {
        is.sentence("Terms 1", "FAULT: the place (from 0 on) of the first byte of the first ITEM that is not so.");
        is.due("the first item", Checks.faultOf("w10;"), 0);
        is.due("the first byte of all", Checks.faultOf("z"), 0);
        is.due("the second item", Checks.faultOf("w1;w10;"), 3);
        is.due("not the byte that is wrong", Checks.faultOf("w1;d0,1,8;"), 3);
        is.due("the first of several", Checks.faultOf("w1;o12;p0,0;o0;"), 3);
        is.due("behind items of 3, 4, 7 and 8 bytes", Checks.faultOf("w1;w01;d0,1,0;l0,11,0;x"), 22);
        is.due("an item that the text breaks off", Checks.faultOf("w1;w2"), 3);
        is.due("the last item of 300 bytes", Checks.faultOf("w1;".repeat(99) + "w1,"), 297);
        is.due("the last byte of 300", Checks.faultOf("w1;".repeat(98) + "w01;w" + ";"), 298);
        is.due("none in 300 bytes", Checks.faultOf("w1;".repeat(100)), NONE);
        is.due("R, E, X that are not there are no fault", Checks.faultOf("r2;d0,1,7;l5,1,5;"), NONE);
    }

    private static void laid() {
        is.sentence("Terms 1", "LAID is a TEXT without FAULT");
        is.due("lay", Checks.layOf(LEAST), 1);
        is.due("lay, a fault ahead", Checks.layOf("w10;" + LEAST), NO);
        is.due("lay, a fault behind", Checks.layOf(LEAST + "w10;"), NO);
        is.due("lay, broken off", Checks.layOf(LEAST + "w1"), NO);

        is.sentence("Terms 1", "of a DOOR and a LODGER at least");
        is.due("lay of nothing", Checks.layOf(""), NO);
        is.due("lay without doors and lodgers", Checks.layOf("r3;w1;o1;p1,1;"), NO);
        is.due("lay without a lodger", Checks.layOf("d0,1,0;d0,1,0;"), NO);
        is.due("lay without a door", Checks.layOf("l0,1,0;l0,1,0;"), NO);
        is.due("lay of one each", Checks.layOf("l0,1,0;d0,1,0;"), 1);

        is.sentence("Terms 1", "whose R, E, X there are (NO else;");
        for (int n = 2; n <= 6; n++) {
            String rooms = "r" + n + ";";
            for (int r = 0; r < 6; r++) {
                int due = r < n ? 1 : NO;
                is.due("lay of R " + r + " of " + n, Checks.layOf(rooms + "d0,1,0;l" + r + ",1,0;"), due);
                is.due("lay of E " + r + " of " + n, Checks.layOf(rooms + "d0,1,0;l0,1," + r + ";"), due);
                is.due("lay of the last E " + r + " of " + n, Checks.layOf(rooms + LEAST + "l0,1,0;l0,1," + r + ";"), due);
                is.due("lay of the last R " + r + " of " + n, Checks.layOf(rooms + LEAST + "l0,1,0;l" + r + ",1,0;"), due);
            }
        }
        for (int n = 1; n <= 8; n++) {
            for (int x = 0; x < 8; x++) {
                int due = x < n ? n : NO;
                is.due("lay of X " + x + " of " + n, Checks.layOf("d0,1," + x + ";" + "d0,1,0;".repeat(n - 1) + "l0,1,0;"), due);
                is.due("lay of the last X " + x + " of " + n, Checks.layOf("d0,1,0;".repeat(n - 1) + "d0,1," + x + ";l0,1,0;"), due);
            }
        }
        is.due("lay of a room told behind", Checks.layOf("l3,1,3;r4;d0,1,0;"), 1);

        is.sentence("Terms 1", "at first r3;d0,1,1;d1,2,0;l0,5,2;l2,3,0;");
        DoorsThatRemember x = new DoorsThatRemember();
        DoorsThatRemember y = house("r3;d0,1,1;d1,2,0;l0,5,2;l2,3,0;");
        Checks.tell(x, "r3;d0,1,1;d1,2,0;l0,5,2;l2,3,0;");
        for (int round = 0; round < 3; round++) {
            alike(x, y);
            is.due("go", x.go(0, 0, true), y.go(0, 0, true));
            is.due("go", x.go(1, 1, round == 1), y.go(1, 1, round == 1));
            is.due("oil", x.oil(1), y.oil(1));
            is.due("night", x.night(1 + round), y.night(1 + round));
            is.due("week", x.week(round, 9, 0), y.week(round, 9, 0));
        }
        alike(x, y);
    }

    private static void alike(DoorsThatRemember x, DoorsThatRemember y) {
        for (int what = 0; what < 8; what++) {
            is.due("count " + what, x.count(what), y.count(what));
        }
        for (int k = 0; k < 2; k++) {
            for (int what = 0; what < 5; what++) {
                is.due("door " + k + " " + what, x.door(k, what), y.door(k, what));
                is.due("lodger " + k + " " + what, x.lodger(k, what), y.lodger(k, what));
            }
            is.due("grudge of 0", x.grudge(0, k), y.grudge(0, k));
            is.due("grudge of 1", x.grudge(1, k), y.grudge(1, k));
        }
    }

    // ---- Promise 1

    private static void promiseNewObject() {
        is.sentence("Promise 1", "As told");
        DoorsThatRemember x = new DoorsThatRemember();
        int[] counts = {3, 2, 2, 0, 0, 0, 0, 0};
        for (int what = 0; what < counts.length; what++) {
            is.due("count(" + what + ")", x.count(what), counts[what]);
        }
        int[][] doors = {{0, 1, 1, 0, 0}, {1, 2, 0, 0, 0}};
        int[][] lodgers = {{0, 5, 2}, {2, 3, 0}};
        for (int k = 0; k < 2; k++) {
            for (int what = 0; what < 5; what++) {
                is.due("door(" + k + ", " + what + ")", x.door(k, what), doors[k][what]);
            }
            for (int what = 0; what < 3; what++) {
                is.due("lodger(" + k + ", " + what + ")", x.lodger(k, what), lodgers[k][what]);
            }
            is.due("grudge(0, " + k + ")", x.grudge(0, k), 0);
            is.due("grudge(1, " + k + ")", x.grudge(1, k), 0);
        }
        is.due("undo()", x.undo(), NO);
        is.due("back()", x.back(), NO);
        is.due("go", x.go(0, 0, true), 1);
        is.due("go", x.go(0, 0, true), 6);
        is.due("go", x.go(0, 0, false), 11);
        is.due("wear of 1", x.grudge(0, 0), 9);
        x.night(1);
        is.due("2 of 9 passed on, 1 faded", x.grudge(0, 0), 6);
        is.due("2 came, 1 faded", x.grudge(1, 0), 1);
        x.oil(1);
        is.due("oil for 2 nights", x.door(1, 3), 2);
        DoorsThatRemember other = new DoorsThatRemember();
        is.due("another new object knows nothing of it", other.count(3), 0);
        is.due("another new object knows nothing of it", other.grudge(0, 0), 0);

        is.sentence("Promise 1", "THE TEXT is empty.");
        DoorsThatRemember y = new DoorsThatRemember();
        is.due("bytes", y.count(7), 0);
        is.due("fault()", y.fault(), NONE);
        is.due("lay()", y.lay(), NO);
        is.due("wipe()", y.wipe(), 0);
        is.due("write of one byte", y.write(1, 'r'), 1);
    }

    // ---- Promise 2

    private static void promiseWrite() {
        is.sentence("Promise 2", "The lowest n bytes (1 to 8) of v");
        for (String item : new String[] {"w9;", "w09;", "p1,1;", "p10,9;", "d0,1,7;", "l0,20,5;"}) {
            int n = item.length();
            DoorsThatRemember x = new DoorsThatRemember();
            long above = n < 8 ? 0x7b7b7b7b7b7b7b7bL << (8 * n) : 0;
            is.due("write(" + n + ", ..)", x.write(n, above | Checks.bytes(item)), n);
            is.due("fault of " + item, x.fault(), NONE);
        }
        DoorsThatRemember one = new DoorsThatRemember();
        is.due("write(1, ..)", one.write(1, -256L | 'w'), 1);
        is.due("write(1, ..)", one.write(1, Long.MIN_VALUE | '9'), 2);
        is.due("write(1, ..)", one.write(1, Long.MAX_VALUE & -256L | ';'), 3);
        is.due("fault of w9;", one.fault(), NONE);
        is.due("write(2, ..)", one.write(2, -65536L | 'o' << 8 | '9'), 5);
        is.due("write(5, ..)", one.write(5, Checks.bytes("zzz;w12;")), 10);
        is.due("fault of w9;o9;w12;", one.fault(), 6);
        DoorsThatRemember all = new DoorsThatRemember();
        is.due("write(8, -1)", all.write(8, -1L), 8);
        is.due("bytes of 255", all.fault(), 0);

        is.sentence("Promise 2", "the highest of these first, come behind THE TEXT");
        DoorsThatRemember x = new DoorsThatRemember();
        x.write(8, Checks.bytes("d0,1,0;l"));
        x.write(7, Checks.bytes("2,20,1;"));
        is.due("lay of d0,1,0;l2,20,1;", x.lay(), 1);
        is.due("R", x.lodger(0, 0), 2);
        is.due("T", x.lodger(0, 1), 20);
        is.due("E", x.lodger(0, 2), 1);
        x.write(3, Checks.bytes("w12"));
        is.due("fault behind it", x.fault(), 15);

        is.sentence("Promise 2", "how long it is.");
        DoorsThatRemember y = new DoorsThatRemember();
        for (int n = 1; n <= 8; n++) {
            is.due("write(" + n + ", ..)", y.write(n, 0), n * (n + 1) / 2);
            is.due("bytes", y.count(7), n * (n + 1) / 2);
        }

        is.sentence("Promise 2", "BAD");
        for (int n : Checks.outside(1, 8)) {
            is.due("write(" + n + ", ..)", y.write(n, 'r'), BAD);
        }
        is.due("bytes", y.count(7), 36);

        is.sentence("Promise 2", "FULL");
        DoorsThatRemember full = new DoorsThatRemember();
        for (int k = 1; k <= 36; k++) {
            full.write(8, 0);
        }
        is.due("write up to 296", full.write(8, 0), 296);
        for (int n = 5; n <= 8; n++) {
            is.due("write up to " + (296 + n), full.write(n, 0), FULL);
        }
        is.due("none of it came", full.count(7), 296);
        is.due("write up to 300", full.write(4, 0), 300);
        for (int n = 1; n <= 8; n++) {
            is.due("write(" + n + ", ..) behind 300", full.write(n, 0), FULL);
        }
        is.due("bytes", full.count(7), 300);
        is.due("wipe", full.wipe(), 300);
        is.due("write, not full any more", full.write(8, 0), 8);
    }

    // ---- Promise 3

    private static void promiseWipe() {
        is.sentence("Promise 3", "THE TEXT is empty");
        DoorsThatRemember x = Checks.told("zzzzz");
        x.wipe();
        is.due("bytes", x.count(7), 0);
        is.due("fault", x.fault(), NONE);
        is.due("lay", x.lay(), NO);
        is.due("the house stays", x.count(1), 2);
        is.due("write", x.write(3, Checks.bytes("w1;")), 3);
        is.due("nothing of the text ahead", x.fault(), NONE);
        for (String one : new String[] {"w", "w1", "p1,1", "d0,1,0", "d0,1,", "r"}) {
            DoorsThatRemember y = Checks.told("p1,1;".repeat(9) + "d0,1,0;w1;1;1;1;1;1;");
            y.wipe();
            Checks.tell(y, one);
            is.due("a text broken off is not read on in the one ahead: " + one, y.fault(), 0);
            DoorsThatRemember z = Checks.told(one + ";" + one + ";");
            z.wipe();
            Checks.tell(z, one);
            is.due("a text broken off is not ended by the one ahead: " + one, z.fault(), 0);
        }

        is.sentence("Promise 3", "how long it was.");
        is.due("wipe of 3", x.wipe(), 3);
        is.due("wipe of none", x.wipe(), 0);
        is.due("wipe of none, new", new DoorsThatRemember().wipe(), 0);
        is.due("wipe of 1", Checks.told("w").wipe(), 1);
        is.due("wipe of 300", Checks.told("w".repeat(300)).wipe(), 300);
    }

    // ---- Promise 4

    private static void promiseFault() {
        is.sentence("Promise 4", "FAULT.");
        DoorsThatRemember x = Checks.told("w1;r5;d0,4,0;l0,9,0;g0,0,99;o10;");
        is.due("fault", x.fault(), 28);
        is.due("fault, again", x.fault(), 28);
        is.due("the text stays", x.count(7), 32);
        is.due("the house stays: rooms", x.count(0), 3);
        is.due("the house stays: doors", x.count(1), 2);
        is.due("the house stays: temper", x.lodger(0, 1), 5);
        is.due("the house stays: grudge", x.grudge(0, 0), 0);
        is.due("the house stays: B", x.door(0, 1), 1);

        is.sentence("Promise 4", "NONE");
        is.due("fault of nothing", new DoorsThatRemember().fault(), NONE);
        DoorsThatRemember y = Checks.told("w1;r5;d0,4,0;l0,9,0;g0,0,99;o9;");
        is.due("fault", y.fault(), NONE);
        is.due("the house stays: rooms", y.count(0), 3);
        is.due("the house stays: temper", y.lodger(0, 1), 5);
        is.due("the house stays: grudge", y.grudge(0, 0), 0);
        is.due("the house stays: way", y.way(0, 0, 1), 1);
        y.oil(0);
        is.due("the house stays: oil", y.door(0, 3), 2);
        DoorsThatRemember laid = house("o4;d0,1,1;d1,2,1;l0,6,2;g0,0,9;u1,3;");
        laid.wipe();
        Checks.tell(laid, "r5;o9;d0,4,0;l0,9,0;g0,0,99;u0,9;");
        is.due("fault, of another text than the one that is laid", laid.fault(), NONE);
        is.due("the laid house stays: rooms", laid.count(0), 3);
        is.due("the laid house stays: doors", laid.count(1), 2);
        is.due("the laid house stays: B", laid.door(0, 1), 1);
        is.due("the laid house stays: X", laid.door(0, 2), 1);
        is.due("the laid house stays: draught", laid.door(0, 4), 0);
        is.due("the laid house stays: temper", laid.lodger(0, 1), 6);
        is.due("the laid house stays: first grudge", laid.how(0, 0, 0, 10, 0), 1);
        laid.oil(0);
        is.due("the laid house stays: oil", laid.door(0, 3), 4);
    }

    // ---- Promise 5

    /** A house as it is at first, laid or not. */
    private static DoorsThatRemember used(boolean laid) {
        DoorsThatRemember x = new DoorsThatRemember();
        if (laid) {
            Checks.tell(x, "r3;d0,1,1;d1,2,0;l0,5,2;l2,3,0;");
            x.lay();
            x.wipe();
        }
        x.go(0, 0, true);
        x.oil(0);
        x.night(1);
        x.keep();
        x.keep();
        return x;
    }

    private static void promiseLay() {
        is.sentence("Promise 5", "LAID: how many DOORS");
        for (int n = 1; n <= 8; n++) {
            is.due("lay of " + n, Checks.layOf("d0,1,0;".repeat(n) + "l0,1,0;"), n);
        }
        DoorsThatRemember x = used(true);
        String text = "r2;r4;p1,1;p10,0;w3;w4;o3;o7;d3,0,0;l1,9,3;l0,2,1;g0,0,5;g0,0,7;g0,1,8;u0,3;u0,2;";
        Checks.tell(x, text);
        is.due("lay", x.lay(), 1);
        int[] counts = {4, 1, 2, 0, 0, 0, 0, text.length()};
        for (int what = 0; what < counts.length; what++) {
            is.due("count(" + what + ")", x.count(what), counts[what]);
        }
        int[] door = {3, 0, 0, 0, 2};
        for (int what = 0; what < door.length; what++) {
            is.due("door(0, " + what + ")", x.door(0, what), door[what]);
        }
        is.due("no door 1 any more", x.door(1, 0), BAD);
        is.due("grudge", x.grudge(0, 0), 7);
        is.due("grudge", x.grudge(0, 1), 8);
        x.go(1, 0, false);
        is.due("worn by the last w", x.grudge(0, 1), 4);
        is.due("oil", x.oil(0), 1);
        is.due("nights by the last o", x.door(0, 3), 7);
        x.night(1);
        is.due("none fades by the last p", x.grudge(0, 0), 9);

        is.sentence("Promise 5", "minute 0, nothing oiled, UNDONE, KEPT");
        DoorsThatRemember y = used(false);
        Checks.tell(y, "d0,1,1;d1,2,0;l0,5,2;");
        is.due("lay", y.lay(), 2);
        is.due("minutes", y.count(3), 0);
        is.due("nights", y.count(4), 0);
        is.due("nights that oil lasts", y.door(0, 3), 0);
        is.due("grudge", y.grudge(0, 0), 0);
        is.due("room", y.lodger(0, 0), 0);
        is.due("what can be undone", y.count(5), 0);
        is.due("undo", y.undo(), NO);
        is.due("kept", y.count(6), 0);
        is.due("back", y.back(), NO);
        is.due("keep", y.keep(), 1);
        y.go(0, 0, true);
        y.oil(1);
        y.night(3);
        is.due("lay of the same text", y.lay(), 2);
        is.due("minutes", y.count(3), 0);
        is.due("nights", y.count(4), 0);
        is.due("nights that oil lasts", y.door(1, 3), 0);
        is.due("undo", y.undo(), NO);
        is.due("back", y.back(), NO);

        is.sentence("Promise 5", "THE TEXT stays.");
        is.due("bytes", y.count(7), 21);
        Checks.tell(y, "l2,3,0;");
        is.due("lay with one lodger more", y.lay(), 2);
        is.due("lodgers", y.count(2), 2);
        is.due("bytes", y.count(7), 28);

        is.sentence("Promise 5", "NO");
        String[] wrong = {"", "d0,1,1;", "d0,1,0;l0,1,0;w10;", "d0,1,0;l3,1,0;", "d0,1,0;l0,1,3;", "d0,1,1;l0,1,0;", "l0,1,0;"};
        for (int k = 0; k < 2 * wrong.length; k++) {
            String one = wrong[k / 2];
            DoorsThatRemember z = used(k % 2 == 0);
            Checks.tell(z, one);
            is.due("lay of " + one, z.lay(), NO);
            is.due("minutes stay", z.count(3), 1);
            is.due("nights stay", z.count(4), 1);
            is.due("doors stay", z.count(1), 2);
            is.due("lodgers stay", z.count(2), 2);
            is.due("X stays", z.door(1, 2), 0);
            is.due("temper stays", z.lodger(0, 1), 5);
            is.due("oil stays", z.door(0, 3), 1);
            is.due("what can be undone stays", z.undo(), 2);
            is.due("what is kept stays", z.back(), 1);
            is.due("bytes stay", z.count(7), one.length());
        }
    }
}
