/** Terms 4 and promises 20 to 25: who slammed, new ones, weeks, houses kept, counts. */
public final class SlamsTest {
    private static final int BAD = Checks.BAD, NO = Checks.NO, FULL = Checks.FULL, NONE = Checks.NONE;
    private static final Checks is = new Checks();

    public static void main(String[] args) {
        whoSlammed();
        newOnes();
        weekFromNow();
        weekByDraws();
        weekThereAndBack();
        weekInAll();
        keptHouse();
        promiseHow();
        promiseFresh();
        promiseWeek();
        promiseKeep();
        promiseBack();
        promiseCount();
        is.close();
    }

    private static DoorsThatRemember house(String text) {
        return Checks.house(text);
    }

    // ---- who slammed

    private static void whoSlammed() {
        // door 0 against lodger 0: 4 at first, 3 less gently, 5 more slammed
        String text = "w3;d0,1,0;d1,2,1;l0,5,2;l0,20,2;g0,0,4;g1,1,95;";

        is.sentence("Terms 4", "HOW: a LODGER went k (0 to 8) times through a DOOR");
        DoorsThatRemember x = house(text);
        is.due("0 times: 4", x.how(0, 0, 0, 5, 0), 1);
        is.due("0 times: not 5", x.how(0, 0, 0, 6, 0), 0);
        is.due("once: 9", x.how(0, 0, 1, 10, 0), 1);
        for (int k = 0; k <= 8; k++) {
            is.due("slammed " + k + " times", x.how(0, 0, k, 5 + 5 * k, 1), k);
            int all = 0;
            for (int m = 1; m <= 45; m++) {
                all += x.how(0, 0, k, m, 0);
            }
            is.due("ways of " + k + " times in all", all, 1 << k);
        }

        is.sentence("Terms 4", "which had its first GRUDGE and was never oiled, by no night");
        DoorsThatRemember y = house(text + "u0,9;");
        y.go(0, 0, true);
        y.oil(0);
        y.night(3);
        is.due("slammed, oiled, three nights gone by: never", y.how(0, 0, 0, 5, 0), 1);
        is.due("not what it is now", y.how(0, 0, 0, 1 + y.grudge(0, 0), 0), 0);
        is.due("once gently", y.how(0, 0, 1, 2, 0), 1);
        is.due("once slammed", y.how(0, 0, 1, 10, 1), 1);
        is.due("oiled: no minute alone", y.how(0, 0, 0, 1, 0), 0);
        is.due("of the other door and lodger", y.how(1, 1, 0, 96, 0), 1);
        y.keep();
        y.back();
        is.due("brought back", y.how(0, 0, 0, 5, 0), 1);

        is.sentence("Terms 4", "and it would take him m (1 to 100) minutes then to go once more");
        is.due("1 minute, 4 worn to 0", x.how(0, 0, 2, 1, 0), 1);
        is.due("1 minute, none", x.how(0, 0, 0, 1, 0), 0);
        is.due("100 minutes, 99 at most", x.how(1, 1, 1, 100, 0), 1);
        is.due("100 minutes, 5 times", x.how(1, 1, 5, 100, 0), 16);
        is.due("100 minutes, none", x.how(1, 1, 0, 100, 0), 0);
        is.due("99 minutes", house("d0,1,0;l0,1,0;g0,0,98;").how(0, 0, 0, 99, 0), 1);
        is.due("100 minutes", house("d0,1,0;l0,1,0;g0,0,99;").how(0, 0, 0, 100, 0), 1);

        is.sentence("Terms 4", "in how many ways, slamming it or not each time");
        DoorsThatRemember z = house("w3;d0,1,0;l0,5,2;g0,0,4;");
        // twice: gently 1, 0; gently and slammed 6; slammed and gently 6; slammed 14
        int[] ways = new int[46];
        ways[1] = 1;
        ways[7] = 2;
        ways[15] = 1;
        for (int m = 1; m <= 45; m++) {
            is.due("twice, " + m + " minutes", z.how(0, 0, 2, m, 0), ways[m]);
        }
        is.due("8 times gently or slammed, nothing worn, one way each", house("w0;d0,1,0;l0,1,2;").how(0, 0, 8, 5, 0), 70);
        // 95 is 75 at the least when all but the last are gentle: slamming the last brings it to 94 at the least
        is.due("8 times, 99 at most", x.how(1, 1, 8, 100, 0), 127);

        is.sentence("Terms 4", "how often he slammed it at the fewest; none.");
        is.due("once of two", z.how(0, 0, 2, 7, 1), 1);
        is.due("never", z.how(0, 0, 2, 1, 1), 0);
        is.due("both times", z.how(0, 0, 2, 15, 1), 2);
        is.due("8 times", z.how(0, 0, 8, 45, 1), 8);
        is.due("the last one of 5", x.how(1, 1, 5, 100, 1), 1);
        is.due("the last one of 8 and another", x.how(1, 1, 8, 100, 1), 2);
        is.due("none", z.how(0, 0, 2, 2, 1), NONE);
        is.due("none", z.how(0, 0, 0, 6, 1), NONE);
    }

    // ---- new ones

    private static void newOnes() {
        is.sentence("Terms 4", "NEW: how much a DOOR will have against a new LODGER: "
            + "its GRUDGES now together by how many LODGERS there are, cut");
        String grudges = "g0,0,99;g0,1,99;g0,2,98;g1,0,5;g2,2,4;";
        DoorsThatRemember x = house("d0,1,0;d1,2,1;d0,2,2;l0,5,2;l0,5,2;l0,5,2;" + grudges);
        is.due("296 by 3", x.fresh(0), 98);
        is.due("5 by 3", x.fresh(1), 1);
        is.due("4 by 3", x.fresh(2), 1);
        x.oil(0);
        is.due("oiled", x.fresh(0), 98);
        x.go(0, 2, true);
        is.due("9 by 3, slammed", x.fresh(2), 3);
        x.night(1);
        is.due("4 by 3, a night later", x.fresh(1), 1);
        is.due("293 by 3, a night later", x.fresh(0), 97);
        x.night(2);
        is.due("2 by 3", x.fresh(1), 0);
        for (int n = 1; n <= 4; n++) {
            DoorsThatRemember y = house("d0,1,0;" + "l0,5,2;".repeat(n) + "g0,0,99;");
            is.due("99 by " + n, y.fresh(0), 99 / n);
            is.due("99 of the last one by " + n,
                house("d0,1,0;" + "l0,5,2;".repeat(n) + "g0," + (n - 1) + ",99;").fresh(0), 99 / n);
        }

        is.sentence("Terms 4", "the DOOR that will have least, the lowest.");
        DoorsThatRemember z = house("d0,1,0;d1,2,1;d0,2,2;l0,5,2;l0,5,2;l0,5,2;" + grudges);
        is.due("the lowest of 1 each, cut", z.fresh(-1), 1);
        is.due("the last one", house("d0,1,0;d1,2,1;d0,2,2;l0,5,2;g0,0,2;g1,0,3;g2,0,1;").fresh(-1), 2);
        is.due("the first one", house("d0,1,0;d1,2,1;l0,5,2;g1,0,3;").fresh(-1), 0);
        is.due("the lowest of two", house("d0,1,0;d1,2,1;d0,2,2;l0,5,2;g0,0,3;g1,0,2;g2,0,2;").fresh(-1), 1);
        is.due("the lowest of all, none has any", house("d0,1,0;d1,2,1;l0,5,2;").fresh(-1), 0);
        is.due("the only one", house("d0,1,0;l0,5,2;g0,0,99;").fresh(-1), 0);
        is.due("the eighth of eight", house("d0,1,0;".repeat(8) + "l0,1,0;"
            + "g0,0,2;g1,0,2;g2,0,2;g3,0,2;g4,0,2;g5,0,2;g6,0,2;g7,0,1;").fresh(-1), 7);
    }

    // ---- weeks

    /** DRAW as the document tells it, cut ahead of squaring so that nothing can wrap around. */
    private static int draw(int z, int k) {
        long x = (7919L * z + 6151L * k + 1) % 65521;
        return (int) (x * x % 65521);
    }

    private static void weekFromNow() {
        // door 0 has 10 against a lodger who goes there and back; z 2 slams at k 0, and not at k 1
        String text = "p0,0;w0;d0,1,0;l0,5,1;g0,0,10;u0,1;";
        is.sentence("Terms 4", "A WEEK by z (0 to 9999) of n (1 to 60) NIGHTS from now on");
        DoorsThatRemember x = house(text);
        is.due("one night: minutes", x.week(2, 1, 0), 11 + 16);
        is.due("one night: grudges", x.week(2, 1, 1), 21);
        is.due("two nights: minutes", x.week(2, 2, 0), 11 + 16 + 22 + 22);
        is.due("two nights: grudges", x.week(2, 2, 1), 22);
        x.night(3);
        is.due("three nights later", x.week(2, 1, 0), 14 + 19);
        x.oil(0);
        is.due("oiled", x.week(2, 2, 0), 4);
        is.due("oiled: grudges", x.week(2, 2, 1), 13 + 10 + 2);
        is.due("oil dry behind two nights", x.week(2, 3, 0), 4 + 2 * 26 + (draw(2, 2) / 8 % 2) * 5);
        x.go(0, 0, true);
        is.due("from where he has to go, oiled", x.week(2, 2, 0), 0);
        is.due("from where he has to go: grudges", x.week(2, 2, 1), 20);
        DoorsThatRemember late = house(text);
        for (int k = 0; k < 166; k++) {
            late.night(60);
        }
        late.night(39);
        is.due("behind night 9999", late.week(0, 1, 0), 200);

        is.sentence("Terms 4", "(nothing changes by it)");
        DoorsThatRemember y = house(text);
        y.oil(0);
        y.keep();
        is.due("a week", y.week(2, 60, 0), y.week(2, 60, 0));
        y.week(2, 60, 1);
        int[] counts = {3, 1, 1, 0, 0, 1, 1, text.length()};
        for (int what = 0; what < counts.length; what++) {
            is.due("count(" + what + ")", y.count(what), counts[what]);
        }
        is.due("grudge", y.grudge(0, 0), 10);
        is.due("oil", y.door(0, 3), 2);
        is.due("room", y.lodger(0, 0), 0);
        is.due("undo", y.undo(), 0);
        is.due("oil, undone", y.door(0, 3), 0);
        is.due("back", y.back(), 0);
        is.due("oil, brought back", y.door(0, 3), 2);
    }

    /** Four lodgers with a grudge and a temper of their own, so that minutes tell who goes and grudges who slams. */
    private static final String FOUR = "p0,0;w0;r2;d0,1,0;l0,1,1;l0,2,1;l0,4,1;l0,8,1;g0,0,10;g0,1,20;g0,2,30;g0,3,40;";

    private static void weekByDraws() {
        is.sentence("Terms 4", "ahead of the k-th (0 first)");
        DoorsThatRemember u = house("p0,0;d0,1,0;l0,5,1;u0,9;");
        is.due("DRAW 1 at z 0, k 0: gently, ahead of the night", u.week(0, 1, 0), 2);
        is.due("then the night", u.week(0, 1, 1), 9);
        is.due("DRAW 41487 at z 0, k 1: slammed, behind the first night", u.week(0, 2, 0), 2 + 10 + 15);
        is.due("then the second night", u.week(0, 2, 1), 9 + 10 + 9);

        is.sentence("Terms 4", "x being 7919 z, 6151 k and 1 together, DRAW being (x times x) modulo 65521");
        for (int z = 0; z <= 9999; z += 3) {
            DoorsThatRemember x = house(FOUR);
            int i = draw(z, 0) % 4;
            int more = draw(z, 0) / 8 % 2 == 1 ? 1 << i : 0;
            is.due("week(" + z + ", 1, 0)", x.week(z, 1, 0), 2 * (11 + 10 * i) + more);
            is.due("week(" + z + ", 1, 1)", x.week(z, 1, 1), 100 + 2 * more);
        }
        for (int z : new int[] {0, 1, 5000, 9998, 9999}) {
            DoorsThatRemember x = house(FOUR);
            int grudges = 100;
            int[] now = {10, 20, 30, 40};
            int minutes = 0;
            for (int k = 0; k < 60; k++) {
                int i = draw(z, k) % 4;
                int more = draw(z, k) / 8 % 2 == 1 ? 1 << i : 0;
                int then = Math.min(99, now[i] + more);
                minutes += 1 + now[i] + 1 + then;
                now[i] = Math.min(99, then + more);
                grudges = now[0] + now[1] + now[2] + now[3];
                is.due("week(" + z + ", " + (k + 1) + ", 0)", x.week(z, k + 1, 0), minutes);
                is.due("week(" + z + ", " + (k + 1) + ", 1)", x.week(z, k + 1, 1), grudges);
            }
        }

        is.sentence("Terms 4", "LODGER DRAW modulo how many there are goes to where he has to go");
        for (int n = 1; n <= 4; n++) {
            String lodgers = "p0,0;w0;r2;d0,1,0;" + "l0,1,1;".repeat(n);
            for (int i = 0; i < n; i++) {
                lodgers += "g0," + i + "," + (10 + 20 * i) + ";";
            }
            for (int z = 0; z < 40; z++) {
                int slammed = draw(z, 0) / 8 % 2;
                is.due("week(" + z + ", 1, 0) of " + n, house(lodgers).week(z, 1, 0), 22 + 40 * (draw(z, 0) % n) + slammed);
            }
        }

        is.sentence("Terms 4", "and slams each, if (DRAW by 8, cut) is odd");
        int slams = 0;
        for (int z = 0; z < 60; z++) {
            // four doors gone through, each slammed or each worn
            DoorsThatRemember x = house("p0,0;w1;d0,1,0;d1,2,1;l0,7,2;g0,0,20;g1,0,30;");
            boolean odd = draw(z, 0) / 8 % 2 == 1;
            slams += odd ? 1 : 0;
            is.due("minutes by z " + z, x.week(z, 1, 0), odd ? 21 + 31 + 38 + 28 : 21 + 31 + 30 + 20);
            is.due("grudges by z " + z, x.week(z, 1, 1), odd ? 50 + 28 : 50 - 4);
        }
        is.due("some slam, some do not", slams > 10 && slams < 50);
    }

    private static void weekThereAndBack() {
        is.sentence("Terms 4", "and then back to the ROOM where he was ahead of it");
        DoorsThatRemember x = house("p0,0;w0;r5;d0,1,0;d1,2,1;d2,3,2;d3,4,3;l0,5,4;g0,0,1;g1,0,2;g2,0,3;g3,0,4;");
        is.due("from 0 to 4 and back", x.week(0, 1, 0), 28);
        x.go(0, 0, false);
        is.due("from 1 to 4 and back", x.week(0, 1, 0), 24);
        x.go(0, 1, false);
        x.go(0, 2, false);
        is.due("from 3 to 4 and back", x.week(0, 1, 0), 10);
        x.go(0, 3, false);
        is.due("from 4, where he has to go", x.week(0, 60, 0), 0);
        DoorsThatRemember twice = house("p0,0;w0;d0,1,0;l0,5,1;l0,5,1;g0,0,5;g0,1,5;");
        is.due("the same one again finds himself where he was", twice.week(1, 2, 0), 24);

        is.sentence("Terms 4", "each time by the DOOR that is FIRST as things are then");
        DoorsThatRemember two = house("p0,0;d0,1,0;d0,1,1;l0,5,1;");
        is.due("slammed one, back by the other", two.week(2, 1, 0), 2);
        is.due("slammed both", two.week(2, 1, 1), 10);
        DoorsThatRemember worn = house("p0,0;w5;d0,1,0;d0,1,1;l0,5,1;g0,0,9;g1,0,8;");
        is.due("worn one, back by the same", worn.week(0, 1, 0), 9 + 4);
        is.due("worn one, back by the same: grudges", worn.week(0, 1, 1), 9);
        DoorsThatRemember lowest = house("p0,0;w0;d0,1,0;d0,1,1;l0,20,1;g0,0,8;g1,0,8;");
        is.due("the lower of two, slammed, then the other", lowest.week(2, 1, 0), 18);
        is.due("next night by what they are then", lowest.week(2, 2, 0), 18 + 29 + 29);
        DoorsThatRemember oiled = house("o1;p0,0;w0;d0,1,0;d0,1,1;l0,5,1;g0,0,3;g1,0,9;");
        oiled.oil(1);
        is.due("the oiled one both times", oiled.week(2, 1, 0), 2);
        is.due("dry in the next night", oiled.week(2, 2, 0), 2 + 4 + 4);
        DoorsThatRemember round = house("p0,0;w0;r4;d0,1,0;d1,2,1;d0,3,2;d3,2,3;l0,10,2;g1,0,1;g2,0,1;g3,0,1;");
        is.due("there by 0 and 1, slammed, back by 3 and 2", round.week(2, 1, 0), 1 + 2 + 2 + 2);

        is.sentence("Terms 4", "(he stays, if there is no WAY)");
        DoorsThatRemember stays = house("p0,0;d0,1,0;l0,5,2;u0,1;");
        is.due("minutes", stays.week(7, 60, 0), 0);
        is.due("nights go by all the same", stays.week(7, 60, 1), 60);
        DoorsThatRemember one = house("p0,0;w0;d0,1,0;l0,5,2;l1,5,0;g0,0,9;g0,1,9;");
        is.due("DRAW 1: the other one goes", one.week(0, 1, 0), 20);
        is.due("DRAW 18128, lodger 0: he stays", one.week(6, 1, 0), 0);
    }

    private static void weekInAll() {
        is.sentence("Terms 4", "how many minutes he and all others take in all");
        DoorsThatRemember x = house(FOUR);
        is.due("lodgers 3, 0, 3, 2", x.week(1, 4, 0), 82 + 22 + 82 + 62);
        x.go(0, 0, false);
        x.go(0, 0, false);
        is.due("not the minutes ahead", x.week(1, 4, 0), 82 + 22 + 82 + 62);

        is.sentence("Terms 4", "all GRUDGES of all DOORS together behind the last NIGHT.");
        DoorsThatRemember y = house("p5,1;d0,1,1;d1,2,1;d0,2,2;l0,5,0;l1,5,1;l2,5,2;g0,0,20;g1,1,30;g2,2,40;u0,7;");
        // nobody has to go: 20, 30, 40; then door 0: 9 + 7, 7, 7; door 1: 9, 29, 0; door 2: 0, 0, 39
        is.due("one night", y.week(0, 1, 1), 16 + 7 + 7 + 9 + 29 + 39);
        y.night(1);
        is.due("as they are then", y.week(0, 1, 1), 14 + 10 + 10 + 16 + 31 + 2 + 38);
        is.due("no minutes", y.week(0, 60, 0), 0);
        is.due("32 times 99", house("p0,0;" + "d0,1,7;".repeat(8) + "l0,1,0;".repeat(4)
            + "u0,20;u1,20;u2,20;u3,20;u4,20;u5,20;u6,20;u7,20;").week(0, 5, 1), 3168);
    }

    // ---- houses kept

    private static void keptHouse() {
        is.sentence("Terms 4", "KEPT is the house as it is: 2 at most.");
        DoorsThatRemember x = house("o9;d0,1,1;d1,2,0;l0,5,2;l1,5,2;g0,0,20;");
        x.go(0, 0, true);
        x.oil(1);
        x.night(2);
        int[] grudges = {x.grudge(0, 0), x.grudge(1, 0), x.grudge(0, 1), x.grudge(1, 1)};
        is.due("the first one", x.keep(), 1);
        x.go(1, 1, true);
        x.go(0, 0, true);
        x.oil(0);
        x.night(5);
        is.due("the second one", x.keep(), 2);
        is.due("a third one", x.keep(), FULL);
        x.back();
        is.due("the second one taken back", x.back(), 0);
        for (int k = 0; k < 4; k++) {
            is.due("grudge of " + k % 2 + " against " + k / 2, x.grudge(k % 2, k / 2), grudges[k]);
        }
        is.due("room of 0", x.lodger(0, 0), 1);
        is.due("room of 1", x.lodger(1, 0), 1);
        is.due("oil of 0", x.door(0, 3), 0);
        is.due("oil of 1", x.door(1, 3), 7);
        is.due("minutes", x.count(3), 21);
        is.due("nights", x.count(4), 2);
    }

    // ---- Promise 20

    private static void promiseHow() {
        DoorsThatRemember x = house("w3;d0,1,0;d1,2,1;l0,5,2;l0,20,2;g0,0,4;g1,1,95;");
        is.sentence("Promise 20", "HOW: how many ways (what = 0)");
        is.due("how(0, 0, 2, 7, 0)", x.how(0, 0, 2, 7, 0), 2);
        is.due("how(0, 0, 2, 8, 0): none is 0 ways", x.how(0, 0, 2, 8, 0), 0);
        is.due("how(1, 0, 8, 100, 0): 5 slams or more, at the end", x.how(1, 0, 8, 100, 0) > 0);
        is.due("how(0, 1, 1, 6, 0)", x.how(0, 1, 1, 6, 0), 1);

        is.sentence("Promise 20", "the fewest times (1; NONE).");
        is.due("how(0, 0, 2, 7, 1)", x.how(0, 0, 2, 7, 1), 1);
        is.due("how(0, 0, 2, 8, 1)", x.how(0, 0, 2, 8, 1), NONE);
        is.due("how(0, 0, 0, 5, 1)", x.how(0, 0, 0, 5, 1), 0);
        is.due("how(1, 0, 8, 100, 1)", x.how(1, 0, 8, 100, 1), 5);

        is.sentence("Promise 20", "BAD");
        for (int bad : Checks.outside(0, 1)) {
            is.due("how(" + bad + ", 0, 0, 5, 0)", x.how(bad, 0, 0, 5, 0), BAD);
            is.due("how(0, " + bad + ", 0, 5, 0)", x.how(0, bad, 0, 5, 0), BAD);
            is.due("how(0, 0, 0, 5, " + bad + ")", x.how(0, 0, 0, 5, bad), BAD);
        }
        for (int bad : Checks.outside(0, 8)) {
            is.due("how(0, 0, " + bad + ", 5, 0)", x.how(0, 0, bad, 5, 0), BAD);
        }
        for (int bad : Checks.outside(1, 100)) {
            is.due("how(0, 0, 0, " + bad + ", 0)", x.how(0, 0, 0, bad, 0), BAD);
            is.due("how(0, 0, 0, " + bad + ", 1)", x.how(0, 0, 0, bad, 1), BAD);
        }
    }

    // ---- Promise 21

    private static void promiseFresh() {
        DoorsThatRemember x = house("d0,1,0;d1,2,1;d0,2,2;l0,5,2;l0,5,2;g0,0,9;g1,0,5;g2,1,4;g2,0,4;");
        is.sentence("Promise 21", "NEW: of a DOOR");
        int[] due = {4, 2, 4};
        for (int d = 0; d < 3; d++) {
            is.due("fresh(" + d + ")", x.fresh(d), due[d]);
        }
        is.sentence("Promise 21", "which DOOR (d = -1).");
        is.due("fresh(-1)", x.fresh(-1), 1);
        x.go(0, 0, false);
        is.due("fresh(-1), nothing to be undone by it", x.count(5), 1);
        is.sentence("Promise 21", "BAD");
        for (int bad : Checks.outside(-1, 2)) {
            is.due("fresh(" + bad + ")", x.fresh(bad), BAD);
        }
        is.due("fresh(7) of 3", x.fresh(7), BAD);
    }

    // ---- Promise 22

    private static void promiseWeek() {
        DoorsThatRemember x = house("p0,0;w1;d0,1,0;d1,2,1;l0,5,2;l2,3,0;g0,1,4;u0,1;");
        is.sentence("Promise 22", "A WEEK: minutes (what = 0)");
        // z 0: lodger 1 gently; behind the night door 0 has 1 and 3; then lodger 1 slams
        is.due("week(0, 1, 0)", x.week(0, 1, 0), 1 + 5 + 4 + 1);
        is.due("week(0, 2, 0)", x.week(0, 2, 0), 11 + 1 + 4 + 7 + 4);
        is.sentence("Promise 22", "GRUDGES (1).");
        is.due("week(0, 1, 1)", x.week(0, 1, 1), 4 - 2 + 2);
        is.due("week(0, 2, 1)", x.week(0, 2, 1), 2 + 10 + 6);
        is.sentence("Promise 22", "BAD");
        for (int bad : Checks.outside(0, 9999)) {
            is.due("week(" + bad + ", 1, 0)", x.week(bad, 1, 0), BAD);
        }
        for (int bad : Checks.outside(1, 60)) {
            is.due("week(0, " + bad + ", 0)", x.week(0, bad, 0), BAD);
        }
        for (int bad : Checks.outside(0, 1)) {
            is.due("week(0, 1, " + bad + ")", x.week(0, 1, bad), BAD);
        }
    }

    // ---- Promise 23

    private static void promiseKeep() {
        DoorsThatRemember x = house("d0,1,1;d1,2,0;l0,5,2;g0,0,20;");
        x.go(0, 0, true);
        is.sentence("Promise 23", "KEPT: how many.");
        is.due("keep", x.keep(), 1);
        is.due("the house stays", x.lodger(0, 0), 1);
        is.due("what can be undone stays", x.count(5), 1);
        is.due("keep", x.keep(), 2);
        is.due("kept", x.count(6), 2);

        is.sentence("Promise 23", "FULL");
        x.oil(0);
        is.due("keep", x.keep(), FULL);
        is.due("kept", x.count(6), 2);
        is.due("keep, again", x.keep(), FULL);
        x.back();
        is.due("what is kept is not the third one", x.door(0, 3), 0);
        is.due("keep, one taken back", x.keep(), 2);
        is.due("keep", x.keep(), FULL);
        x.back();
        x.back();
        is.due("keep, both taken back", x.keep(), 1);
    }

    // ---- Promise 24

    private static void promiseBack() {
        DoorsThatRemember x = house("d0,1,1;d1,2,0;l0,5,2;g0,0,20;");
        is.sentence("Promise 24", "As KEPT last (it is KEPT no more then)");
        x.go(0, 0, true);
        x.keep();
        x.go(0, 1, true);
        x.keep();
        x.go(0, 1, true);
        x.night(3);
        Checks.tell(x, "abc");
        x.back();
        is.due("room, kept last", x.lodger(0, 0), 2);
        is.due("minutes, kept last", x.count(3), 22);
        is.due("nights, kept last", x.count(4), 0);
        is.due("the text stays", x.count(7), 32);
        x.go(0, 1, true);
        x.keep();
        x.go(0, 1, false);
        x.back();
        is.due("room, kept again", x.lodger(0, 0), 1);
        is.due("minutes, kept again", x.count(3), 28);
        x.back();
        is.due("room, kept first", x.lodger(0, 0), 1);
        is.due("minutes, kept first", x.count(3), 21);
        is.due("grudge, kept first", x.grudge(1, 0), 0);

        is.sentence("Promise 24", "how many are left");
        DoorsThatRemember y = new DoorsThatRemember();
        y.keep();
        is.due("back of one", y.back(), 0);
        y.keep();
        y.keep();
        is.due("back of two", y.back(), 1);
        is.due("kept", y.count(6), 1);
        is.due("back of the other", y.back(), 0);
        is.due("kept", y.count(6), 0);

        is.sentence("Promise 24", "nothing is UNDONE then.");
        y.go(0, 0, true);
        y.oil(0);
        y.keep();
        is.due("what can be undone, kept", y.count(5), 2);
        y.night(1);
        y.back();
        is.due("what can be undone, brought back", y.count(5), 0);
        is.due("undo", y.undo(), NO);
        is.due("room", y.lodger(0, 0), 1);
        y.night(1);
        is.due("undo of what was done since", y.undo(), 0);
        is.due("nights", y.count(4), 0);

        is.sentence("Promise 24", "NO");
        is.due("back, new", new DoorsThatRemember().back(), NO);
        y.oil(1);
        is.due("back, none left", y.back(), NO);
        is.due("what can be undone stays", y.count(5), 1);
        is.due("the house stays", y.door(1, 3), 2);
    }

    // ---- Promise 25

    private static void promiseCount() {
        is.sentence("Promise 25", "How many: 0 ROOMS, 1 DOORS, 2 LODGERS, 3 minutes, 4 NIGHTS, "
            + "5 that can be UNDONE, 6 KEPT, 7 bytes of THE TEXT.");
        DoorsThatRemember x = house("r6;d0,1,0;d1,2,0;d2,3,0;l0,5,2;l0,5,2;l0,5,2;l0,5,2;");
        x.go(0, 0, true);
        x.go(0, 0, true);
        x.night(60);
        x.keep();
        int[] counts = {6, 3, 4, 7, 60, 3, 1, 52};
        for (int what = 0; what < counts.length; what++) {
            is.due("count(" + what + ")", x.count(what), counts[what]);
        }
        is.sentence("Promise 25", "BAD");
        for (int bad : Checks.outside(0, 7)) {
            is.due("count(" + bad + ")", x.count(bad), BAD);
        }
    }
}
