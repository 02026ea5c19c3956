/** Terms 2 and promises 6 to 12: what is told of a house, and what is done in it. */
public final class HouseTest {
    private static final int BAD = Checks.BAD, NO = Checks.NO;
    private static final Checks is = new Checks();

    public static void main(String[] args) {
        going();
        oiling();
        passingOn();
        fadingAndDraught();
        undoing();
        promiseDoor();
        promiseLodger();
        promiseGrudge();
        promiseGo();
        promiseOil();
        promiseNight();
        promiseUndo();
        is.close();
    }

    private static DoorsThatRemember house(String text) {
        return Checks.house(text);
    }

    // ---- going through doors

    private static void going() {
        is.sentence("Terms 2", "No minute has gone by at first.");
        is.due("minutes, new", new DoorsThatRemember().count(3), 0);
        DoorsThatRemember first = house("d0,1,0;l0,5,1;g0,0,9;");
        is.due("minutes, laid", first.count(3), 0);
        first.oil(0);
        first.night(60);
        is.due("minutes by oil and nights", first.count(3), 0);

        is.sentence("Terms 2", "A LODGER can go through a DOOR of the ROOM where he is into its other one");
        DoorsThatRemember x = house("r4;d0,1,0;d2,1,0;d3,2,0;l0,5,3;l3,5,0;");
        for (int d = 1; d <= 2; d++) {
            is.due("go by door " + d + " from 0", x.go(0, d, false), NO);
        }
        is.due("go from A", x.go(0, 0, false), 1);
        is.due("room", x.lodger(0, 0), 1);
        is.due("the other one's room", x.lodger(1, 0), 3);
        is.due("go by door 2 from 1", x.go(0, 2, false), NO);
        is.due("go from B", x.go(0, 1, false), 1);
        is.due("room", x.lodger(0, 0), 2);
        is.due("go by door 0 from 2", x.go(0, 0, false), NO);
        is.due("go from B", x.go(0, 2, false), 1);
        is.due("room, two in one", x.lodger(0, 0), 3);
        is.due("go back from A", x.go(0, 2, false), 1);
        is.due("room", x.lodger(0, 0), 2);

        is.sentence("Terms 2", "it takes 1 minute, and, if it is not oiled, one more for each GRUDGE it has against him.");
        for (int g = 0; g <= 99; g += 11) {
            DoorsThatRemember y = house("w0;d0,1,0;l0,5,1;l0,6,1;g0,0," + g + ";g0,1," + (99 - g) + ";");
            is.due("go, a grudge of " + g, y.go(0, 0, false), 1 + g);
            is.due("go, a grudge of " + (99 - g), y.go(1, 0, false), 100 - g);
            y.oil(0);
            is.due("go, oiled, a grudge of " + g, y.go(0, 0, false), 1);
            is.due("minutes", y.count(3), 102);
            y.night(2);
            is.due("go, dry again", y.go(0, 0, false), g < 2 ? 1 : g - 1);
        }

        is.sentence("Terms 2", "Then that GRUDGE (of an oiled DOOR, too) is W less, 0 at least");
        for (int w = 0; w <= 9; w++) {
            DoorsThatRemember y = house("w" + w + ";d0,1,0;d1,0,1;l0,5,1;l0,5,1;g0,0,12;g0,1,12;g1,0,12;");
            is.due("go", y.go(0, 0, false), 13);
            is.due("grudge, worn by " + w, y.grudge(0, 0), 12 - w);
            y.oil(0);
            y.go(0, 0, false);
            is.due("grudge of an oiled one, worn twice by " + w, y.grudge(0, 0), Math.max(0, 12 - 2 * w));
            is.due("against another lodger", y.grudge(0, 1), 12);
            is.due("of another door", y.grudge(1, 0), 12);
            for (int k = 0; k < 13; k++) {
                y.go(0, 0, false);
            }
            is.due("grudge, worn 15 times by " + w, y.grudge(0, 0), w == 0 ? 12 : 0);
        }

        is.sentence("Terms 2", "or, if he slams it, his TEMPER more, 99 at most.");
        for (int t = 1; t <= 20; t++) {
            DoorsThatRemember y = house("w3;d0,1,0;d1,0,1;l0," + t + ",1;l0,20,1;g0,0,60;g0,1,5;g1,0,7;");
            is.due("go", y.go(0, 0, true), 61);
            is.due("grudge, slammed by " + t, y.grudge(0, 0), 60 + t);
            y.oil(0);
            y.go(0, 0, true);
            is.due("grudge of an oiled one, slammed twice by " + t, y.grudge(0, 0), Math.min(99, 60 + 2 * t));
            is.due("against another lodger", y.grudge(0, 1), 5);
            is.due("of another door", y.grudge(1, 0), 7);
        }
        DoorsThatRemember most = house("d0,1,0;l0,1,1;l0,20,1;g0,0,98;g0,1,79;");
        most.go(0, 0, true);
        is.due("98 and 1", most.grudge(0, 0), 99);
        is.due("go, 99", most.go(0, 0, true), 100);
        is.due("99 and 1", most.grudge(0, 0), 99);
        most.go(1, 0, true);
        is.due("79 and 20", most.grudge(0, 1), 99);
        most.go(1, 0, true);
        is.due("99 and 20", most.grudge(0, 1), 99);
        most.go(1, 0, false);
        is.due("99, then gently", most.grudge(0, 1), 98);
    }

    private static void oiling() {
        is.sentence("Terms 2", "A DOOR can be oiled, whether it is or not, for K nights from then on.");
        for (int k = 1; k <= 9; k++) {
            DoorsThatRemember x = house("o" + k + ";d0,1,0;d1,0,1;l0,5,1;g0,0,9;");
            x.oil(0);
            is.due("nights, oiled", x.door(0, 3), k);
            x.oil(0);
            is.due("nights, oiled again at once", x.door(0, 3), k);
            x.night(k);
            is.due("nights, dry", x.door(0, 3), 0);
            x.oil(0);
            is.due("nights, oiled when dry", x.door(0, 3), k);
            if (k > 1) {
                x.night(k - 1);
                is.due("the last night", x.door(0, 3), 1);
            }
            x.oil(0);
            is.due("nights, oiled ahead of the last", x.door(0, 3), k);
            is.due("the other door", x.door(1, 3), 0);
        }
        DoorsThatRemember y = house("w0;d0,1,0;l0,5,1;g0,0,9;");
        y.oil(0);
        is.due("the grudge stays", y.grudge(0, 0), 9);
    }

    // ---- nights

    private static void passingOn() {
        is.sentence("Terms 2",
            "When a NIGHT goes by, of each GRUDGE G of a DOOR that is not oiled, nor its X, which is another one");
        int[][] due = {{50, 0, 70}, {80, 40, 0}, {0, 90, 30}, {30, 50, 40}};
        for (int oiled = 0; oiled < 4; oiled++) {
            DoorsThatRemember x = house("p10,0;d0,1,1;d1,2,2;d0,2,0;d0,2,3;l0,5,2;g0,0,50;g1,0,40;g2,0,30;g3,0,20;");
            x.oil(oiled);
            x.night(1);
            for (int d = 0; d < 3; d++) {
                is.due("grudge of " + d + ", door " + oiled + " oiled", x.grudge(d, 0), due[oiled][d]);
            }
            is.due("grudge of the one that passes on to itself, door " + oiled + " oiled", x.grudge(3, 0), 20);
        }
        DoorsThatRemember all = house("p10,0;d0,1,1;d1,2,0;l0,5,2;g0,0,50;g1,0,40;");
        all.oil(0);
        all.oil(1);
        all.night(2);
        is.due("grudge of 0, both oiled", all.grudge(0, 0), 50);
        is.due("grudge of 1, both oiled", all.grudge(1, 0), 40);
        all.night(1);
        is.due("grudge of 0, both dry", all.grudge(0, 0), 40);
        is.due("grudge of 1, both dry", all.grudge(1, 0), 50);

        is.sentence("Terms 2", "G times P by 10, cut");
        for (int g = 0; g <= 99; g++) {
            for (int p = 0; p <= 10; p++) {
                DoorsThatRemember x = house("p" + p + ",0;d0,1,1;d1,2,1;l0,5,2;g0,0," + g + ";");
                x.night(1);
                is.due(g + " by " + p + " tenths, gone", x.grudge(1, 0), g * p / 10);
                is.due(g + " by " + p + " tenths, left", x.grudge(0, 0), g - g * p / 10);
            }
        }
        DoorsThatRemember three = house("p1,0;d0,1,3;d0,1,3;d0,1,3;d0,1,3;l0,5,2;g0,0,9;g1,0,9;g2,0,19;");
        three.night(1);
        is.due("each cut by itself", three.grudge(3, 0), 1);

        is.sentence("Terms 2", "passes over to that of X against the same LODGER");
        DoorsThatRemember x = house("p10,0;d0,1,2;d1,2,2;d0,2,2;l0,5,2;l0,5,2;l0,5,2;g0,0,10;g1,0,20;g0,2,30;g2,1,40;");
        x.night(1);
        int[][] grudges = {{0, 0, 0}, {0, 0, 0}, {30, 40, 30}};
        for (int d = 0; d < 3; d++) {
            for (int i = 0; i < 3; i++) {
                is.due("grudge of " + d + " against " + i, x.grudge(d, i), grudges[d][i]);
            }
        }

        is.sentence("Terms 2", "all at once by what they were");
        DoorsThatRemember up = house("p5,0;d0,1,1;d1,2,2;d0,2,3;d0,2,3;l0,5,2;g0,0,80;g1,0,40;g2,0,20;g3,0,10;");
        up.night(1);
        int[] upDue = {40, 60, 30, 20};
        DoorsThatRemember down = house("p5,0;d0,1,0;d1,2,0;d0,2,1;d0,2,2;l0,5,2;g0,0,10;g1,0,20;g2,0,40;g3,0,80;");
        down.night(1);
        for (int d = 0; d < 4; d++) {
            is.due("grudge of " + d + ", to the next one", up.grudge(d, 0), upDue[d]);
            is.due("grudge of " + d + ", to the one ahead", down.grudge(d, 0), upDue[3 - d]);
        }
        DoorsThatRemember swap = house("p10,0;d0,1,1;d1,2,0;l0,5,2;g0,0,80;g1,0,70;");
        swap.night(1);
        is.due("grudge of 0, each to the other", swap.grudge(0, 0), 70);
        is.due("grudge of 1, each to the other", swap.grudge(1, 0), 80);
    }

    private static void fadingAndDraught() {
        is.sentence("Terms 2", "then each one is F less, 0 at least");
        for (int f = 0; f <= 9; f++) {
            DoorsThatRemember x = house("p5," + f + ";d0,1,1;d1,2,1;d0,2,2;l0,5,2;g0,0,20;g2,0,8;");
            x.oil(2);
            x.night(1);
            is.due("10 left, F " + f, x.grudge(0, 0), 10 - f);
            is.due("10 come, F " + f, x.grudge(1, 0), 10 - f);
            is.due("8 of an oiled one, F " + f, x.grudge(2, 0), Math.max(0, 8 - f));
        }
        DoorsThatRemember none = house("p10,9;d0,1,1;d1,2,1;l0,5,2;g0,0,3;");
        none.night(1);
        is.due("none left, F 9", none.grudge(0, 0), 0);
        is.due("3 come, F 9", none.grudge(1, 0), 0);

        is.sentence("Terms 2", "then S more where there is a draught");
        DoorsThatRemember u = house("p5,9;d0,1,1;d1,2,1;d0,2,2;l0,5,2;l0,5,2;u0,3;u1,20;g0,0,8;");
        u.oil(1);
        u.night(1);
        is.due("8, faded, then 3", u.grudge(0, 0), 3);
        is.due("0, faded, then 3", u.grudge(0, 1), 3);
        is.due("an oiled one", u.grudge(1, 0), 20);
        is.due("an oiled one against the other", u.grudge(1, 1), 20);
        is.due("without a draught", u.grudge(2, 0), 0);
        DoorsThatRemember late = house("p10,0;d0,1,1;d1,2,1;l0,5,2;u0,3;");
        late.night(1);
        is.due("nothing of it passes on in the same night", late.grudge(1, 0), 0);
        late.night(1);
        is.due("it does in the next one", late.grudge(1, 0), 3);

        is.sentence("Terms 2", "each is 99 at most (with or without one)");
        for (int g = 80; g <= 99; g++) {
            String doors = "d0,1,1;d1,2,1;l0,5,2;g0,0,9;g1,0," + g + ";";
            DoorsThatRemember without = house("p10,0;" + doors);
            without.night(1);
            is.due("9 and " + g, without.grudge(1, 0), Math.min(99, 9 + g));
            DoorsThatRemember with = house("p0,0;" + doors + "u1,9;");
            with.night(1);
            is.due(g + " and a draught of 9", with.grudge(1, 0), Math.min(99, g + 9));
            DoorsThatRemember faded = house("p10,5;" + doors);
            faded.night(1);
            is.due("9 and " + g + ", 5 less", faded.grudge(1, 0), Math.min(99, 9 + g - 5));
            DoorsThatRemember both = house("p10,5;" + doors + "u1,3;");
            both.night(1);
            is.due("9 and " + g + ", 5 less, 3 more", both.grudge(1, 0), Math.min(99, 9 + g - 5 + 3));
        }
        DoorsThatRemember seven = house("p10,0;" + "d0,1,7;".repeat(8) + "l0,5,1;"
            + "g0,0,99;g1,0,99;g2,0,99;g3,0,99;g4,0,99;g5,0,99;g6,0,99;g7,0,99;");
        seven.night(1);
        is.due("eight times 99", seven.grudge(7, 0), 99);

        is.sentence("Terms 2", "and each oiled DOOR is for a night less.");
        DoorsThatRemember o = house("o3;p10,0;d0,1,1;d1,2,1;d0,2,2;l0,5,2;g0,0,9;");
        o.oil(0);
        o.night(1);
        o.oil(2);
        int[] left = {2, 1, 0, 0};
        for (int n = 0; n < 4; n++) {
            is.due("nights of oil behind " + (n + 1), o.door(0, 3), left[n]);
            is.due("nights of oil of the door that never was", o.door(1, 3), 0);
            is.due("nights of oil of the door oiled behind", o.door(2, 3), 3 - n);
            is.due("oil lasts the whole of its last night", o.grudge(1, 0), n < 3 ? 0 : 9);
            o.night(1);
        }
    }

    // ---- undone

    private static void undoing() {
        is.sentence("Terms 2", "UNDONE is the latest go(), oil(), night()");
        DoorsThatRemember x = house("o5;p5,1;d0,1,1;d1,2,0;l0,5,2;l0,5,2;g0,0,20;");
        x.go(0, 0, true);
        x.oil(0);
        x.night(3);
        x.oil(0);
        is.due("undo of oil", x.undo(), 3);
        is.due("nights of oil", x.door(0, 3), 2);
        is.due("nights", x.count(4), 3);
        is.due("undo of nights", x.undo(), 2);
        is.due("nights", x.count(4), 0);
        is.due("nights of oil", x.door(0, 3), 5);
        is.due("grudge", x.grudge(0, 0), 25);
        is.due("undo of oil", x.undo(), 1);
        is.due("nights of oil", x.door(0, 3), 0);
        is.due("room", x.lodger(0, 0), 1);
        is.due("minutes", x.count(3), 21);
        is.due("undo of go", x.undo(), 0);
        is.due("room", x.lodger(0, 0), 0);
        is.due("minutes", x.count(3), 0);
        is.due("grudge", x.grudge(0, 0), 20);
        x.go(1, 0, false);
        x.undo();
        is.due("undo of a gentle one: room", x.lodger(1, 0), 0);
        is.due("undo of a gentle one: minutes", x.count(3), 0);
        x.night(60);
        x.undo();
        is.due("undo of 60 nights: grudge", x.grudge(0, 0), 20);
        is.due("undo of 60 nights: grudge of the other", x.grudge(1, 0), 0);
        is.due("undo of 60 nights", x.count(4), 0);
        is.due("nothing else is undone", x.count(5), 0);
        x.keep();
        Checks.tell(x, "w");
        x.wipe();
        x.fault();
        x.lay();
        x.week(1, 1, 0);
        is.due("neither keep, write, wipe, fault, lay refused, week", x.undo(), NO);
        is.due("kept stays", x.count(6), 1);

        is.sentence("Terms 2", "(the last 8 can be).");
        DoorsThatRemember y = house("d0,1,0;l0,5,2;");
        for (int k = 1; k <= 11; k++) {
            y.night(k);
            is.due("what can be undone behind " + k, y.count(5), Math.min(8, k));
        }
        int[] nights = {55, 45, 36, 28, 21, 15, 10, 6};
        for (int k = 0; k < 8; k++) {
            is.due("undo", y.undo(), 7 - k);
            is.due("nights", y.count(4), nights[k]);
        }
        is.due("undo of the ninth", y.undo(), NO);
        is.due("nights", y.count(4), 6);
        for (int k = 1; k <= 3; k++) {
            y.go(0, 0, k == 2);
            is.due("what can be undone behind " + k + " more", y.count(5), k);
        }
    }

    // ---- Promise 6

    private static void promiseDoor() {
        DoorsThatRemember x = house("r6;o4;d5,0,1;d2,3,0;d4,1,2;l0,1,0;u1,20;u2,1;");
        x.oil(1);
        int[][] due = {{5, 0, 1, 0, 0}, {2, 3, 0, 4, 20}, {4, 1, 2, 0, 1}};
        is.sentence("Promise 6", "Of a DOOR: ROOMS (what = 0, 1)");
        for (int d = 0; d < 3; d++) {
            is.due("A of " + d, x.door(d, 0), due[d][0]);
            is.due("B of " + d, x.door(d, 1), due[d][1]);
        }
        is.sentence("Promise 6", "X (2)");
        for (int d = 0; d < 3; d++) {
            is.due("X of " + d, x.door(d, 2), due[d][2]);
        }
        is.sentence("Promise 6", "nights that oil lasts still (3)");
        for (int d = 0; d < 3; d++) {
            is.due("oil of " + d, x.door(d, 3), due[d][3]);
        }
        for (int n = 3; n >= 0; n--) {
            x.night(1);
            is.due("oil of 1", x.door(1, 3), n);
        }
        x.night(1);
        is.due("oil of 1, dry", x.door(1, 3), 0);
        is.sentence("Promise 6", "the draught (4).");
        for (int d = 0; d < 3; d++) {
            is.due("draught of " + d, x.door(d, 4), due[d][4]);
        }
        is.sentence("Promise 6", "BAD");
        for (int bad : Checks.outside(0, 2)) {
            for (int what = 0; what <= 4; what++) {
                is.due("door(" + bad + ", " + what + ")", x.door(bad, what), BAD);
            }
        }
        for (int bad : Checks.outside(0, 4)) {
            is.due("door(0, " + bad + ")", x.door(0, bad), BAD);
            is.due("door(3, " + bad + ")", x.door(3, bad), BAD);
        }
        is.due("door 7 of 3", x.door(7, 0), BAD);
        DoorsThatRemember eight = house("d0,1,7;".repeat(8) + "l0,1,0;");
        is.due("door 7 of 8", eight.door(7, 1), 1);
        is.due("door 8 of 8", eight.door(8, 1), BAD);
    }

    // ---- Promise 7

    private static void promiseLodger() {
        DoorsThatRemember x = house("r6;d5,0,0;l5,20,3;l0,1,5;l4,7,0;");
        int[][] due = {{5, 20, 3}, {0, 1, 5}, {4, 7, 0}};
        is.sentence("Promise 7", "Of a LODGER: the ROOM where he is (what = 0)");
        for (int i = 0; i < 3; i++) {
            is.due("room of " + i, x.lodger(i, 0), due[i][0]);
        }
        x.go(0, 0, false);
        is.due("room of 0, gone", x.lodger(0, 0), 0);
        is.due("room of 1, who stayed", x.lodger(1, 0), 0);
        is.sentence("Promise 7", "TEMPER (1)");
        for (int i = 0; i < 3; i++) {
            is.due("temper of " + i, x.lodger(i, 1), due[i][1]);
        }
        is.sentence("Promise 7", "E (2)");
        for (int i = 0; i < 3; i++) {
            is.due("E of " + i, x.lodger(i, 2), due[i][2]);
        }
        is.sentence("Promise 7", "BAD");
        for (int bad : Checks.outside(0, 2)) {
            for (int what = 0; what <= 2; what++) {
                is.due("lodger(" + bad + ", " + what + ")", x.lodger(bad, what), BAD);
                is.due("lodger(" + what + ", " + bad + ")", x.lodger(what, bad), BAD);
            }
        }
        DoorsThatRemember four = house("d0,1,0;" + "l0,1,2;".repeat(4));
        is.due("lodger 3 of 4", four.lodger(3, 2), 2);
        is.due("lodger 4 of 4", four.lodger(4, 2), BAD);
    }

    // ---- Promise 8

    private static void promiseGrudge() {
        is.sentence("Promise 8", "A GRUDGE now.");
        DoorsThatRemember x = house("p0,2;r2;d0,1,0;d0,1,1;l0,1,0;l0,2,0;l0,3,0;g0,0,1;g0,2,99;g1,1,44;g1,2,0;");
        int[][] due = {{1, 0, 99}, {0, 44, 0}};
        for (int d = 0; d < 2; d++) {
            for (int i = 0; i < 3; i++) {
                is.due("grudge(" + d + ", " + i + ")", x.grudge(d, i), due[d][i]);
            }
        }
        x.go(1, 1, true);
        is.due("slammed", x.grudge(1, 1), 46);
        x.oil(1);
        is.due("oiled", x.grudge(1, 1), 46);
        x.night(1);
        is.due("a night later", x.grudge(1, 1), 44);

        is.sentence("Promise 8", "BAD");
        for (int bad : Checks.outside(0, 1)) {
            is.due("grudge(" + bad + ", 0)", x.grudge(bad, 0), BAD);
        }
        for (int bad : Checks.outside(0, 2)) {
            is.due("grudge(0, " + bad + ")", x.grudge(0, bad), BAD);
            is.due("grudge(1, " + bad + ")", x.grudge(1, bad), BAD);
        }
    }

    // ---- Promise 9

    private static void promiseGo() {
        is.sentence("Promise 9", "A LODGER goes through a DOOR: how many minutes it takes.");
        DoorsThatRemember x = house("w4;d0,1,0;d2,1,1;l0,20,0;l1,7,0;g0,0,50;g1,0,3;");
        is.due("go", x.go(0, 0, true), 51);
        is.due("go", x.go(0, 1, false), 4);
        is.due("go", x.go(0, 1, true), 1);
        is.due("go", x.go(0, 0, true), 71);
        is.due("go of the other", x.go(1, 0, false), 1);
        is.due("minutes of both", x.count(3), 51 + 4 + 1 + 71 + 1);
        is.due("nights", x.count(4), 0);
        is.due("what can be undone", x.count(5), 5);

        is.sentence("Promise 9", "BAD");
        for (int bad : Checks.outside(0, 1)) {
            is.due("go(" + bad + ", 0)", x.go(bad, 0, true), BAD);
            is.due("go(0, " + bad + ")", x.go(0, bad, false), BAD);
            is.due("go(" + bad + ", 1)", x.go(bad, 1, false), BAD);
        }
        is.due("minutes", x.count(3), 128);
        is.due("what can be undone", x.count(5), 5);

        is.sentence("Promise 9", "NO: it is not of his ROOM.");
        is.due("go", x.go(0, 1, true), NO);
        is.due("go", x.go(0, 1, false), NO);
        is.due("minutes", x.count(3), 128);
        is.due("room", x.lodger(0, 0), 0);
        is.due("grudge", x.grudge(1, 0), 20);
        is.due("what can be undone", x.count(5), 5);
        DoorsThatRemember apart = house("r5;d1,2,0;d3,2,0;d2,1,0;l4,1,4;l0,1,0;");
        for (int d = 0; d < 3; d++) {
            is.due("go from a room without a door", apart.go(0, d, true), NO);
            is.due("go from room 0 without a door", apart.go(1, d, true), NO);
        }
    }

    // ---- Promise 10

    private static void promiseOil() {
        is.sentence("Promise 10", "A DOOR is OILED: how many are.");
        DoorsThatRemember x = house("o3;" + "d0,1,0;".repeat(8) + "l0,5,2;");
        for (int d = 7; d >= 0; d--) {
            is.due("oil(" + d + ")", x.oil(d), 8 - d);
            is.due("oil(" + d + ") again", x.oil(d), 8 - d);
        }
        x.night(2);
        is.due("oil of the last night", x.oil(3), 8);
        x.night(1);
        is.due("oil, one lasts still", x.oil(5), 2);
        is.due("oil of the one that lasts", x.oil(3), 2);
        x.night(3);
        is.due("oil, none lasts", x.oil(0), 1);

        is.sentence("Promise 10", "BAD");
        DoorsThatRemember y = house("d0,1,0;d1,2,1;d0,2,2;l0,5,2;");
        for (int bad : Checks.outside(0, 2)) {
            is.due("oil(" + bad + ")", y.oil(bad), BAD);
        }
        is.due("oil(7) of 3", y.oil(7), BAD);
        is.due("what can be undone", y.count(5), 0);
        is.due("oil(2)", y.oil(2), 1);
    }

    // ---- Promise 11

    private static void promiseNight() {
        is.sentence("Promise 11", "n NIGHTS (1 to 60) go by");
        String text = "p4,1;o5;d0,1,1;d1,2,2;d0,2,0;l0,5,2;l0,5,1;g0,0,91;g1,0,40;g2,0,7;g0,1,55;u2,1;";
        DoorsThatRemember one = house(text);
        one.oil(1);
        for (int n = 1; n <= 60; n++) {
            DoorsThatRemember x = house(text);
            x.oil(1);
            is.due("night(" + n + ")", x.night(n), n);
            one.night(1);
            for (int d = 0; d < 3; d++) {
                is.due("grudge of " + d + " behind " + n, x.grudge(d, 0), one.grudge(d, 0));
            }
            is.due("grudge against 1 behind " + n, x.grudge(0, 1), one.grudge(0, 1));
            is.due("nights of oil behind " + n, x.door(1, 3), Math.max(0, 5 - n));
        }

        is.sentence("Promise 11", "how many have in all.");
        DoorsThatRemember y = house("d0,1,0;l0,5,2;");
        is.due("night(1)", y.night(1), 1);
        is.due("night(60)", y.night(60), 61);
        is.due("night(7)", y.night(7), 68);
        is.due("nights", y.count(4), 68);
        y.undo();
        is.due("night(9), 7 undone", y.night(9), 70);

        is.sentence("Promise 11", "BAD");
        for (int bad : Checks.outside(1, 60)) {
            is.due("night(" + bad + ")", y.night(bad), BAD);
        }
        is.due("nights", y.count(4), 70);
        is.due("what can be undone", y.count(5), 3);

        is.sentence("Promise 11", "NO: above 9999.");
        DoorsThatRemember z = house("p0,0;d0,1,0;l0,5,2;u0,1;");
        for (int k = 1; k <= 165; k++) {
            z.night(60);
        }
        is.due("nights", z.count(4), 9900);
        z.night(60);
        is.due("night(40) behind 9960", z.night(40), NO);
        is.due("night(60) behind 9960", z.night(60), NO);
        is.due("nights", z.count(4), 9960);
        is.due("night(39) behind 9960", z.night(39), 9999);
        is.due("night(1) behind 9999", z.night(1), NO);
        z.oil(0);
        is.due("night(60) behind 9999", z.night(60), NO);
        is.due("nights", z.count(4), 9999);
        is.due("nights of oil", z.door(0, 3), 2);
        is.due("night(61) behind 9999", z.night(61), BAD);
        is.due("night(0) behind 9999", z.night(0), BAD);
        z.undo();
        z.undo();
        is.due("night(39), 39 undone", z.night(39), 9999);
    }

    // ---- Promise 12

    private static void promiseUndo() {
        is.sentence("Promise 12", "UNDONE: how many more can be.");
        DoorsThatRemember x = house("d0,1,0;l0,5,2;");
        for (int k = 1; k <= 9; k++) {
            for (int n = 0; n < k; n++) {
                x.go(0, 0, n % 2 == 0);
            }
            for (int n = Math.min(8, k) - 1; n >= 0; n--) {
                is.due("undo of " + k, x.undo(), n);
                is.due("what can be undone", x.count(5), n);
            }
        }
        is.sentence("Promise 12", "NO");
        is.due("undo", x.undo(), NO);
        is.due("minutes of the one that can't be", x.count(3), 1);
        is.due("room of the one that can't be", x.lodger(0, 0), 1);
        is.due("undo, new", new DoorsThatRemember().undo(), NO);
        x.go(0, 5, true);
        x.oil(5);
        x.night(0);
        is.due("undo of what was refused", x.undo(), NO);
    }
}
