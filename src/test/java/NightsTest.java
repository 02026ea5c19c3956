/** Terms 3 and promises 17 to 19: how a grudge goes through the house in nights to come. */
public final class NightsTest {
    private static final int BAD = Checks.BAD, NONE = Checks.NONE;
    private static final Checks is = new Checks();

    // Against lodger 0: 80, 10, 0; then 39, 44, 6 (half passes on, 1 fades, 2 come to door 2).
    private static final String CHAIN =
        "p5,1;o9;d0,1,1;d1,2,2;d0,2,2;l0,5,2;l0,5,1;g0,0,80;g1,0,10;g0,1,9;g2,1,60;u2,2;";
    // Doors 0, 1 and 3 pass all on, at last to door 2.
    private static final String TO_TWO =
        "p10,0;o1;d0,1,2;d1,2,2;d0,2,2;d0,2,0;l0,5,2;g0,0,40;g1,0,20;g3,0,30;";

    public static void main(String[] args) {
        nightsToCome();
        worstDoor();
        doorsThatStop();
        promiseBehind();
        promiseWorst();
        promiseStop();
        is.close();
    }

    private static DoorsThatRemember house(String text) {
        return Checks.house(text);
    }

    private static void nightsToCome() {
        is.sentence("Terms 3", "BEHIND n (0 to 60) NIGHTS, nothing else being done: a GRUDGE.");
        DoorsThatRemember x = house(CHAIN);
        DoorsThatRemember y = house(CHAIN);
        x.oil(1);
        y.oil(1);
        for (int n = 0; n <= 60; n++) {
            if (n > 0) {
                y.night(1);
            }
            for (int d = 0; d < 3; d++) {
                is.due("behind(" + n + ", " + d + ", 0)", x.behind(n, d, 0), y.grudge(d, 0));
            }
            is.due("behind(" + n + ", 2, 1)", x.behind(n, 2, 1), y.grudge(2, 1));
        }
        is.due("nights", x.count(4), 0);
        is.due("grudge", x.grudge(0, 0), 80);
        is.due("nights of oil", x.door(1, 3), 9);
        is.due("what can be undone", x.count(5), 1);
        DoorsThatRemember late = house("p0,0;d0,1,0;l0,5,1;u0,1;");
        for (int k = 0; k < 166; k++) {
            late.night(60);
        }
        late.night(39);
        late.go(0, 0, false);
        is.due("60 nights behind night 9999", late.behind(60, 0, 0), 99);
        is.due("a night behind night 9999", late.behind(1, 0, 0), 99);
        is.due("none behind night 9999", late.behind(0, 0, 0), 98);
    }

    private static void worstDoor() {
        is.sentence("Terms 3", "WORST: the DOOR whose GRUDGE against a LODGER is greatest then, the lowest.");
        DoorsThatRemember x = house(CHAIN);
        // 80, 10, 0; then 39, 44, 6; then 19, 40, 29; then 9, 28, 50
        int[] due = {0, 1, 1, 2};
        for (int n = 0; n < due.length; n++) {
            is.due("worst(" + n + ", 0)", x.worst(n, 0), due[n]);
            is.due("worst(" + n + ", 1)", x.worst(n, 1), 2);
        }
        DoorsThatRemember alike = house("p0,1;d0,1,0;d1,2,1;d0,2,2;l0,5,2;l0,5,2;g1,0,3;g2,0,3;g2,1,9;");
        is.due("the lowest of two", alike.worst(0, 0), 1);
        is.due("the lowest of two behind a night", alike.worst(1, 0), 1);
        is.due("the lowest of all, none has any", alike.worst(3, 0), 0);
        is.due("the last one", alike.worst(8, 1), 2);
        is.due("the lowest, faded all", alike.worst(9, 1), 0);
        alike.oil(1);
        is.due("oil takes no grudge", alike.worst(0, 0), 1);
        is.due("the eighth of eight", house("d0,1,7;".repeat(8) + "l0,5,2;g6,0,98;g7,0,99;").worst(0, 0), 7);
        is.due("the only one", house("d0,1,0;l0,5,2;").worst(60, 0), 0);
    }

    private static void doorsThatStop() {
        is.sentence("Terms 3", "STOP: of sets of DOORS (bits) without d such that");
        DoorsThatRemember own = house("p10,0;d0,1,1;d1,2,1;l0,5,2;g0,0,40;");
        is.due("oil of d itself would do, but it is another's", own.stop(1, 1, 0, 1), 1);
        is.due("to door 1 from 0, asked of 0", own.stop(1, 0, 0, 1), 0);
        DoorsThatRemember draught = house("p0,0;d0,1,0;d1,2,1;l0,5,2;u0,5;");
        is.due("no other door stops a draught", draught.stop(1, 0, 0, 5), NONE);
        is.due("one door alone", house("p10,0;d0,1,0;l0,5,2;g0,0,5;").stop(1, 0, 0, 5), NONE);
        is.due("one door alone, less already", house("p10,0;d0,1,0;l0,5,2;g0,0,5;").stop(1, 0, 0, 6), 0);

        is.sentence("Terms 3", "were these oiled now for more than n nights");
        DoorsThatRemember x = house(TO_TWO);
        for (int n : new int[] {2, 3, 9, 10, 59, 60}) {
            is.due("both oiled for more than " + n, x.stop(n, 2, 0, 1), 3);
        }
        is.due("nothing is oiled by it", x.door(0, 3), 0);
        DoorsThatRemember f = house("p10,0;d0,1,3;d1,2,3;d0,2,3;d0,1,3;l0,5,2;g0,0,5;g1,0,5;g2,0,10;");
        f.oil(3);
        is.due("oiled already, two nights", f.stop(2, 3, 0, 1), 0);
        is.due("oiled already, the third night is dry", f.stop(3, 3, 0, 11), 4);

        is.sentence("Terms 3", "the GRUDGE of d against LODGER i BEHIND n NIGHTS would be less than g (1 to 99)");
        DoorsThatRemember y = house(TO_TWO + "l0,5,2;g0,1,9;");
        is.due("60 is less than 61", y.stop(1, 2, 0, 61), 0);
        is.due("60 is not less than 60", y.stop(1, 2, 0, 60), 1);
        is.due("30 of door 3 come in the second night", y.stop(2, 2, 0, 61), 1);
        is.due("of the other lodger", y.stop(1, 2, 1, 10), 0);
        is.due("of the other lodger", y.stop(1, 2, 1, 9), 1);
        is.due("now", y.stop(0, 0, 0, 41), 0);
        is.due("now", y.stop(0, 0, 0, 40), NONE);
        is.due("98 is less than 99", house("d0,1,0;l0,5,2;g0,0,98;").stop(0, 0, 0, 99), 0);
        is.due("99 is not less than 99", house("d0,1,0;l0,5,2;g0,0,99;").stop(0, 0, 0, 99), NONE);
        is.due("0 is less than 1", house("d0,1,0;l0,5,2;").stop(0, 0, 0, 1), 0);
        is.due("1 is not less than 1", house("d0,1,0;l0,5,2;g0,0,1;").stop(0, 0, 0, 1), NONE);

        is.sentence("Terms 3", "(1 to 99), that of fewest, of several the lowest; none.");
        DoorsThatRemember z = house("p10,0;d0,1,3;d1,2,3;d0,2,3;d0,1,3;l0,5,2;g0,0,5;g1,0,5;g2,0,10;");
        is.due("one of 10 ahead of two of 5", z.stop(1, 3, 0, 11), 4);
        is.due("the lowest two", z.stop(1, 3, 0, 10), 5);
        is.due("all three", z.stop(1, 3, 0, 5), 7);
        is.due("the lowest one", z.stop(1, 3, 0, 16), 1);
        DoorsThatRemember first = house("p10,0;d0,1,0;d1,2,0;d0,2,0;d0,1,0;l0,5,2;g1,0,5;g2,0,5;g3,0,5;");
        is.due("the lowest one without 0", first.stop(1, 0, 0, 11), 2);
        is.due("the lowest two without 0", first.stop(1, 0, 0, 6), 6);
        is.due("all three without 0", first.stop(1, 0, 0, 5), 14);
        is.due("all seven of eight", house("p10,0;" + "d0,1,0;".repeat(8) + "l0,5,2;"
            + "g1,0,1;g2,0,1;g3,0,1;g4,0,1;g5,0,1;g6,0,1;g7,0,1;").stop(1, 0, 0, 1), 254);
        is.due("the first seven of eight", house("p10,0;" + "d0,1,7;".repeat(8) + "l0,5,2;"
            + "g1,0,1;g2,0,1;g3,0,1;g4,0,1;g5,0,1;g6,0,1;g0,0,1;").stop(1, 7, 0, 1), 127);
        is.due("none", house("p10,0;d0,1,0;d1,2,1;l0,5,2;g0,0,5;").stop(9, 0, 0, 5), NONE);
    }

    // ---- Promise 17

    private static void promiseBehind() {
        is.sentence("Promise 17", "BEHIND n NIGHTS: a GRUDGE.");
        DoorsThatRemember x = house(CHAIN);
        int[][] due = {{80, 10, 0}, {39, 44, 6}, {19, 40, 29}, {9, 28, 50}};
        for (int n = 0; n < due.length; n++) {
            for (int d = 0; d < 3; d++) {
                is.due("behind(" + n + ", " + d + ", 0)", x.behind(n, d, 0), due[n][d]);
            }
        }
        is.due("behind(1, 2, 1)", x.behind(1, 2, 1), 60 - 1 + 2);
        is.due("behind(60, 2, 1)", x.behind(60, 2, 1), 99);

        is.sentence("Promise 17", "BAD");
        for (int bad : Checks.outside(0, 60)) {
            is.due("behind(" + bad + ", 0, 0)", x.behind(bad, 0, 0), BAD);
        }
        for (int bad : Checks.outside(0, 2)) {
            is.due("behind(0, " + bad + ", 0)", x.behind(0, bad, 0), BAD);
        }
        for (int bad : Checks.outside(0, 1)) {
            is.due("behind(0, 0, " + bad + ")", x.behind(0, 0, bad), BAD);
        }
    }

    // ---- Promise 18

    private static void promiseWorst() {
        is.sentence("Promise 18", "WORST: the DOOR.");
        DoorsThatRemember x = house(CHAIN);
        is.due("worst(0, 0)", x.worst(0, 0), 0);
        is.due("worst(2, 0)", x.worst(2, 0), 1);
        is.due("worst(60, 0)", x.worst(60, 0), 2);
        is.due("nights", x.count(4), 0);
        is.due("grudge", x.grudge(0, 0), 80);

        is.sentence("Promise 18", "BAD");
        for (int bad : Checks.outside(0, 60)) {
            is.due("worst(" + bad + ", 0)", x.worst(bad, 0), BAD);
        }
        for (int bad : Checks.outside(0, 1)) {
            is.due("worst(0, " + bad + ")", x.worst(0, bad), BAD);
        }
    }

    // ---- Promise 19

    private static void promiseStop() {
        is.sentence("Promise 19", "STOP, as bits.");
        DoorsThatRemember x = house(TO_TWO);
        is.due("stop(1, 2, 0, 61)", x.stop(1, 2, 0, 61), 0);
        is.due("stop(1, 2, 0, 60)", x.stop(1, 2, 0, 60), 1);
        is.due("stop(1, 2, 0, 40)", x.stop(1, 2, 0, 40), 1);
        is.due("stop(1, 2, 0, 20)", x.stop(1, 2, 0, 20), 3);
        is.due("stop(1, 0, 0, 30)", x.stop(1, 0, 0, 30), 8);
        is.due("nights", x.count(4), 0);
        is.due("grudge", x.grudge(0, 0), 40);
        is.due("oil", x.oil(3), 1);

        is.sentence("Promise 19", "NONE");
        is.due("stop(0, 0, 0, 40)", x.stop(0, 0, 0, 40), NONE);
        is.due("stop(0, 3, 0, 30)", x.stop(0, 3, 0, 30), NONE);

        is.sentence("Promise 19", "BAD");
        for (int bad : Checks.outside(0, 60)) {
            is.due("stop(" + bad + ", 0, 0, 40)", x.stop(bad, 0, 0, 40), BAD);
        }
        for (int bad : Checks.outside(0, 3)) {
            is.due("stop(0, " + bad + ", 0, 40)", x.stop(0, bad, 0, 40), BAD);
        }
        for (int bad : Checks.outside(0, 0)) {
            is.due("stop(0, 0, " + bad + ", 40)", x.stop(0, 0, bad, 40), BAD);
        }
        for (int bad : Checks.outside(1, 99)) {
            is.due("stop(0, 0, 0, " + bad + ")", x.stop(0, 0, 0, bad), BAD);
        }
    }
}
