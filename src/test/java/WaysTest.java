/** Terms 3 and promises 13 to 16: ways, first doors, in time, rooms for all. */
public final class WaysTest {
    private static final int BAD = Checks.BAD, NONE = Checks.NONE;
    private static final Checks is = new Checks();

    // A ring of rooms 0 to 3 with two doors between 0 and 1: 1 + 9 or 1 + 4, 1 + 2, 1 + 1, 1 + 5; rooms 4 and 5 apart.
    private static final String RING =
        "r6;d0,1,0;d0,1,1;d1,2,2;d2,3,3;d3,0,4;l0,5,2;l4,5,2;g0,0,9;g1,0,4;g2,0,2;g3,0,1;g4,0,5;g0,1,1;g1,1,0;";
    // Five doors in a row, each as slow as can be.
    private static final String FAR =
        "r6;d0,1,0;d1,2,1;d2,3,2;d3,4,3;d4,5,4;l0,5,5;g0,0,99;g1,0,99;g2,0,99;g3,0,99;g4,0,99;";

    public static void main(String[] args) {
        ways();
        firstDoors();
        setsInTime();
        roomsForAll();
        promiseWay();
        promiseFirst();
        promiseInTime();
        promiseRooms();
        is.close();
    }

    private static DoorsThatRemember house(String text) {
        return Checks.house(text);
    }

    private static void ways() {
        is.sentence("Terms 3",
            "WAY for a LODGER from one ROOM to another: in how many minutes at the least DOORS as they are now");
        DoorsThatRemember x = house(RING);
        is.due("the shorter of two ways of 8 each", x.way(0, 0, 2), 8);
        is.due("by the better of two doors", x.way(0, 0, 1), 5);
        x.go(0, 1, true);
        is.due("a door slammed since: by the other one", x.way(0, 0, 1), 10);
        is.due("the other way round", x.way(0, 0, 2), 8);
        x.oil(0);
        is.due("by an oiled one", x.way(0, 0, 1), 1);
        is.due("by an oiled one and on", x.way(0, 0, 2), 4);
        is.due("one behind the oiled one", x.way(0, 3, 1), 5);
        x.night(1);
        is.due("faded, oiled still", x.way(0, 0, 2), 3);
        x.night(1);
        is.due("oil gone: 8 by each of two doors, less the other way round", x.way(0, 0, 1), 4 + 1 + 1);
        DoorsThatRemember detour = house("r6;d0,5,0;d0,1,1;d1,2,2;d2,3,3;d3,4,4;d4,5,5;l0,5,5;g0,0,5;");
        is.due("five doors of 1 ahead of one of 6", detour.way(0, 0, 5), 5);
        is.due("from the other end", detour.way(0, 5, 0), 5);
        for (String row : new String[] {"d0,1,0;d1,2,1;d2,3,2;d3,4,3;d4,5,4;", "d4,5,0;d3,4,1;d2,3,2;d1,2,3;d0,1,4;",
            "d5,4,0;d4,3,1;d3,2,2;d2,1,3;d1,0,4;", "d1,0,0;d2,1,1;d3,2,2;d4,3,3;d5,4,4;", "d2,3,0;d1,0,1;d4,5,2;d1,2,3;d4,3,4;"}) {
            DoorsThatRemember told = house("r6;" + row + "l0,5,5;");
            for (int k = 0; k < 36; k++) {
                is.due("way from " + k / 6 + " to " + k % 6 + " by " + row, told.way(0, k / 6, k % 6), Math.abs(k / 6 - k % 6));
            }
        }
        is.due("the longest there can be", house(FAR).way(0, 0, 5), 500);
        is.due("the longest there can be, back", house(FAR).way(0, 5, 0), 500);

        is.sentence("Terms 3", "(none wearing or growing) lead him there");
        DoorsThatRemember still = house("w9;d0,1,0;d1,2,1;l0,5,2;g0,0,20;g1,0,30;");
        is.due("way", still.way(0, 0, 2), 52);
        is.due("way, again", still.way(0, 0, 2), 52);
        is.due("grudge", still.grudge(0, 0), 20);
        is.due("minutes", still.count(3), 0);
        is.due("room", still.lodger(0, 0), 0);

        is.sentence("Terms 3", "(0: it is the same); none.");
        DoorsThatRemember y = house(RING);
        for (int room = 0; room < 6; room++) {
            is.due("way to the same room " + room, y.way(0, room, room), 0);
            is.due("way to 5 from " + room, y.way(0, room, 5), room == 5 ? 0 : NONE);
            is.due("way from 4 to " + room, y.way(1, 4, room), room == 4 ? 0 : NONE);
        }
    }

    private static void firstDoors() {
        is.sentence("Terms 3", "FIRST: the lowest DOOR by which one of so few can begin");
        DoorsThatRemember x = house(RING);
        is.due("the lowest of two ways of 8 each", x.first(0, 0, 2), 1);
        is.due("back, the lowest of two", x.first(0, 2, 0), 2);
        is.due("the only one", x.first(0, 3, 0), 4);
        is.due("of another lodger", x.first(1, 0, 1), 1);
        x.oil(4);
        is.due("by an oiled one", x.first(0, 0, 2), 4);
        x.oil(0);
        x.oil(1);
        is.due("the lowest of two oiled ones", x.first(0, 0, 1), 0);
        is.due("not one that leads elsewhere in a minute", x.first(0, 0, 3), 4);
        DoorsThatRemember same = house("r4;d3,2,0;d0,2,0;d0,1,0;d0,1,0;d1,3,0;d0,3,0;l0,5,3;g5,0,1;");
        is.due("the lowest of four ways", same.first(0, 0, 3), 1);
        is.due("the lowest of four ways, back", same.first(0, 3, 0), 0);
        is.due("of two doors to one room", same.first(0, 0, 1), 2);

        is.sentence("Terms 3", "none (no WAY, the same ROOM).");
        DoorsThatRemember y = house(RING);
        for (int room = 0; room < 6; room++) {
            is.due("first to the same room " + room, y.first(0, room, room), NONE);
        }
        for (int room = 0; room < 4; room++) {
            is.due("first from " + room + " to 4", y.first(0, room, 4), NONE);
            is.due("first from 5 to " + room, y.first(1, 5, room), NONE);
        }
    }

    private static void setsInTime() {
        is.sentence("Terms 3", "IN TIME: of sets of DOORS (bits) such that, were these oiled as well, "
            + "WAY from where he is to where he has to go would be");
        DoorsThatRemember x = house(RING);
        is.due("in 7", x.inTime(0, 7), 1);
        x.oil(0);
        is.due("in 4, door 0 oiled", x.inTime(0, 4), 0);
        is.due("in 2, door 2 as well", x.inTime(0, 2), 4);
        x.go(0, 0, true);
        is.due("in 3, from room 1", x.inTime(0, 3), 0);
        is.due("in 1, from room 1", x.inTime(0, 1), 4);
        x.go(0, 2, true);
        is.due("in 0, where he has to go", x.inTime(0, 0), 0);
        is.due("nothing is oiled by it", x.door(2, 3), 0);
        is.due("the other lodger's way", house("d0,1,0;l0,5,1;l1,5,0;g0,1,3;").inTime(1, 1), 1);

        is.sentence("Terms 3", "m (0 to 600) or fewer");
        DoorsThatRemember far = house(FAR);
        is.due("in 600", far.inTime(0, 600), 0);
        is.due("in 500", far.inTime(0, 500), 0);
        is.due("in 499", far.inTime(0, 499), 1);
        is.due("in 401", far.inTime(0, 401), 1);
        is.due("in 400", far.inTime(0, 400), 3);
        is.due("in 5", far.inTime(0, 5), 31);
        is.due("in 4", far.inTime(0, 4), NONE);
        is.due("in 0", far.inTime(0, 0), NONE);
        is.due("in 0, there", house("d0,1,0;l1,5,1;").inTime(0, 0), 0);

        is.sentence("Terms 3", "m (0 to 600) or fewer, that of fewest, of several the lowest; none.");
        DoorsThatRemember f = house("d0,1,0;d1,2,1;d0,2,2;l0,5,2;g0,0,9;g1,0,9;g2,0,50;");
        is.due("the third one ahead of the first two", f.inTime(0, 2), 4);
        is.due("the first of two", f.inTime(0, 11), 1);
        is.due("none needed", f.inTime(0, 20), 0);
        is.due("the third one alone will do", f.inTime(0, 1), 4);
        is.due("none", f.inTime(0, 0), NONE);
        DoorsThatRemember all = house("r6;" + "d0,1,0;d1,2,0;d2,3,0;d3,4,0;d4,5,0;d0,1,0;d0,1,0;d0,1,0;l0,5,5;"
            + "g0,0,1;g1,0,1;g2,0,1;g3,0,1;g4,0,1;g5,0,1;g6,0,1;g7,0,1;");
        is.due("five of eight, the lowest", all.inTime(0, 5), 31);
        is.due("the lowest two of many", all.inTime(0, 8), 3);
        DoorsThatRemember last = house("d0,1,0;d0,1,0;d0,1,0;d0,1,0;d0,1,0;d0,1,0;d0,1,0;d1,2,0;l1,5,2;g7,0,1;");
        is.due("the eighth alone", last.inTime(0, 1), 128);
        is.due("no way", house(RING).inTime(1, 600), NONE);
    }

    private static void roomsForAll() {
        is.sentence("Terms 3", "ROOMS: of all ways to have the LODGERS each in a ROOM, no two in one");
        DoorsThatRemember x = house("d0,1,0;d1,2,1;l2,5,0;l2,3,0;l2,3,0;");
        is.due("sum of three who go to 0", x.rooms(-1), 0 + 1 + 2);
        for (int i = 0; i < 3; i++) {
            is.due("room of " + i, x.rooms(i), i);
        }
        is.due("more lodgers than rooms", house("r2;d0,1,0;l0,1,0;l0,1,0;l0,1,0;").rooms(-1), NONE);
        is.due("as many lodgers as rooms", house("r2;d0,1,0;l0,1,0;l0,1,0;").rooms(-1), 1);
        is.due("four lodgers in three rooms", house("d0,1,0;d1,2,0;" + "l0,1,0;".repeat(4)).rooms(0), NONE);
        is.due("four lodgers in four rooms", house("r4;d0,1,0;d0,2,0;d0,3,0;" + "l0,1,0;".repeat(4)).rooms(3), 3);

        is.sentence("Terms 3", "such that each has a WAY from there to where he has to go");
        DoorsThatRemember apart = house("r4;d0,1,0;d2,3,0;l0,1,3;l0,1,3;l3,1,0;");
        is.due("sum", apart.rooms(-1), 1);
        is.due("room of 0", apart.rooms(0), 2);
        is.due("room of 1", apart.rooms(1), 3);
        is.due("room of 2", apart.rooms(2), 0);
        is.due("no way for the third", house("r4;d0,1,0;d2,3,0;l0,1,0;l0,1,0;l0,1,0;").rooms(0), NONE);
        is.due("a room without a door, alone", house("r4;d0,1,0;l0,1,3;l0,1,0;").rooms(0), 3);
        is.due("a room without a door for two", house("r4;d0,1,0;l0,1,3;l0,1,3;").rooms(-1), NONE);

        is.sentence("Terms 3", "that by which these are least together");
        DoorsThatRemember y = house("d0,1,0;d1,2,1;l2,5,0;l2,3,0;g0,1,4;");
        is.due("sum", y.rooms(-1), 1);
        is.due("the patient one in room 1", y.rooms(0), 1);
        is.due("the other in room 0", y.rooms(1), 0);
        y.oil(1);
        is.due("sum, another door oiled", y.rooms(-1), 1);
        y.go(0, 1, false);
        y.go(0, 0, true);
        y.undo();
        is.due("where they are does not matter", y.rooms(0), 1);
        DoorsThatRemember least = house("r4;d0,1,0;d1,2,1;d2,3,2;l0,1,1;l0,1,1;l0,1,2;g1,0,9;g1,1,2;g0,0,3;g0,1,5;g2,2,1;");
        // 0 in 1: the other in 0 for 6, or in 2 for 3 and 2 in 3 for 2: 5; 1 in 1: 0 in 0 for 4
        is.due("a little more for one, less for all", least.rooms(-1), 4);
        is.due("room of 0", least.rooms(0), 0);
        is.due("room of 1", least.rooms(1), 1);
        is.due("room of 2", least.rooms(2), 2);

        is.sentence("Terms 3", "of several the first (by the ROOM of LODGER 0, then 1, ..)");
        DoorsThatRemember z = house("r3;d1,0,0;d1,2,1;l0,1,1;l0,1,1;l0,1,1;");
        int[] rooms = {0, 1, 2};
        for (int i = 0; i < 3; i++) {
            is.due("room of " + i, z.rooms(i), rooms[i]);
        }
        DoorsThatRemember four = house("r6;d0,1,0;d2,3,0;l5,1,3;l5,1,3;l5,1,0;l5,1,5;");
        int[] more = {2, 3, 0, 5};
        for (int i = 0; i < 4; i++) {
            is.due("room of " + i, four.rooms(i), more[i]);
        }
        DoorsThatRemember last = house("r6;d5,4,0;d5,3,0;l0,1,5;l0,1,5;l0,1,0;l0,1,1;");
        int[] late = {3, 5, 0, 1};
        for (int i = 0; i < 4; i++) {
            is.due("room of " + i, last.rooms(i), late[i]);
        }

        is.sentence("Terms 3", "the sum; the ROOM of a LODGER; none.");
        is.due("sum of four", four.rooms(-1), 1);
        is.due("sum of one", house("d0,1,0;l2,5,0;").rooms(-1), 0);
        is.due("room of one", house("d0,1,0;l2,5,0;").rooms(0), 0);
        DoorsThatRemember most = house(FAR + "l0,5,5;l0,5,5;l0,5,5;");
        is.due("sum of four, one of them slow", most.rooms(-1), 1 + 2 + 3);
        is.due("room of the slow one", most.rooms(0), 5);
        for (int i = -1; i < 3; i++) {
            is.due("rooms(" + i + ") of none", house("r2;d0,1,0;l0,1,0;l0,1,0;l0,1,0;").rooms(i), NONE);
        }
    }

    // ---- Promise 13

    private static void promiseWay() {
        is.sentence("Promise 13", "WAY of a LODGER from ROOM a to b.");
        DoorsThatRemember x = house(RING);
        is.due("way(0, 0, 1)", x.way(0, 0, 1), 5);
        is.due("way(0, 1, 0)", x.way(0, 1, 0), 5);
        is.due("way(1, 0, 1)", x.way(1, 0, 1), 1);
        is.due("way(1, 0, 2)", x.way(1, 0, 2), 2);
        is.due("way(0, 3, 1)", x.way(0, 3, 1), 5);
        is.due("not from where he is", x.way(1, 3, 2), 1);

        is.sentence("Promise 13", "NONE");
        is.due("way(0, 0, 4)", x.way(0, 0, 4), NONE);
        is.due("way(1, 4, 2)", x.way(1, 4, 2), NONE);
        is.due("way(0, 4, 5)", x.way(0, 4, 5), NONE);
        x.oil(0);
        is.due("oil makes no way", x.way(0, 0, 5), NONE);

        is.sentence("Promise 13", "BAD");
        for (int bad : Checks.outside(0, 5)) {
            is.due("way(0, " + bad + ", 1)", x.way(0, bad, 1), BAD);
            is.due("way(0, 1, " + bad + ")", x.way(0, 1, bad), BAD);
            is.due("way(0, " + bad + ", " + bad + ")", x.way(0, bad, bad), BAD);
            is.due("way(" + bad + ", 0, 4)", x.way(bad, 0, 4), BAD);
        }
        is.due("lodger 2 of 2", x.way(2, 0, 1), BAD);
        is.due("room 2 of 2", house("r2;d0,1,0;l0,1,0;").way(0, 2, 2), BAD);
    }

    // ---- Promise 14

    private static void promiseFirst() {
        is.sentence("Promise 14", "FIRST of a WAY.");
        DoorsThatRemember x = house(RING);
        is.due("first(0, 0, 2)", x.first(0, 0, 2), 1);
        is.due("first(1, 0, 3)", x.first(1, 0, 3), 4);
        is.due("first(1, 1, 3)", x.first(1, 1, 3), 1);
        is.due("first(0, 1, 3)", x.first(0, 1, 3), 2);
        is.due("minutes", x.count(3), 0);
        is.due("room", x.lodger(0, 0), 0);

        is.sentence("Promise 14", "NONE");
        is.due("first(0, 0, 4)", x.first(0, 0, 4), NONE);
        is.due("first(0, 4, 4)", x.first(0, 4, 4), NONE);

        is.sentence("Promise 14", "BAD");
        for (int bad : Checks.outside(0, 5)) {
            is.due("first(0, " + bad + ", 1)", x.first(0, bad, 1), BAD);
            is.due("first(0, 1, " + bad + ")", x.first(0, 1, bad), BAD);
            is.due("first(0, " + bad + ", " + bad + ")", x.first(0, bad, bad), BAD);
            is.due("first(" + bad + ", 1, 1)", x.first(bad, 1, 1), BAD);
        }
        is.due("lodger 2 of 2", x.first(2, 0, 1), BAD);
        is.due("room 2 of 2", house("r2;d0,1,0;l0,1,0;").first(0, 0, 2), BAD);
    }

    // ---- Promise 15

    private static void promiseInTime() {
        is.sentence("Promise 15", "IN TIME, as bits.");
        DoorsThatRemember x = house(RING);
        int[] due = {NONE, NONE, 5, 16, 1, 1, 1, 1, 0};
        for (int m = 0; m < due.length; m++) {
            is.due("inTime(0, " + m + ")", x.inTime(0, m), due[m]);
        }

        is.sentence("Promise 15", "NONE");
        is.due("inTime(0, 1)", x.inTime(0, 1), NONE);
        is.due("inTime(1, 600)", x.inTime(1, 600), NONE);

        is.sentence("Promise 15", "BAD");
        for (int bad : Checks.outside(0, 600)) {
            is.due("inTime(0, " + bad + ")", x.inTime(0, bad), BAD);
            is.due("inTime(1, " + bad + ")", x.inTime(1, bad), BAD);
        }
        for (int bad : Checks.outside(0, 1)) {
            is.due("inTime(" + bad + ", 600)", x.inTime(bad, 600), BAD);
        }
    }

    // ---- Promise 16

    private static void promiseRooms() {
        is.sentence("Promise 16", "ROOMS: the sum (i = -1)");
        DoorsThatRemember x = house("d0,1,0;d1,2,1;l2,5,0;l2,3,0;g0,0,4;g0,1,4;");
        is.due("rooms(-1)", x.rooms(-1), 5);
        x.oil(0);
        is.due("rooms(-1), as doors are now", x.rooms(-1), 1);

        is.sentence("Promise 16", "the ROOM of a LODGER.");
        is.due("rooms(0)", x.rooms(0), 0);
        is.due("rooms(1)", x.rooms(1), 1);
        is.due("nobody goes", x.lodger(1, 0), 2);

        is.sentence("Promise 16", "NONE");
        is.due("rooms(-1)", house("r2;d0,1,0;" + "l0,1,0;".repeat(4)).rooms(-1), NONE);
        is.due("rooms(3)", house("r2;d0,1,0;" + "l0,1,0;".repeat(4)).rooms(3), NONE);

        is.sentence("Promise 16", "BAD");
        for (int bad : Checks.outside(-1, 1)) {
            is.due("rooms(" + bad + ")", x.rooms(bad), BAD);
        }
        is.due("rooms(4) of none", house("r2;d0,1,0;" + "l0,1,0;".repeat(4)).rooms(4), BAD);
        is.due("rooms(-2) of none", house("r2;d0,1,0;" + "l0,1,0;".repeat(4)).rooms(-2), BAD);
    }
}
