import java.util.Arrays;

/** Parts III and IV of the document: what is foretold, found, counted and settled. */
final class AnswerBounds extends Checks {
    private AnswerBounds() {
    }

    static void all() {
        foretold();
        orders();
        shunts();
        reached();
        rows();
        theLowest();
        theCrane();
        idle();
        balances();
        settled();
        groups();
        trips();
        stock();
        seen();
        histories();
        late();
        likely();
        whoseLaw();
        heaviest();
        mostWorn();
        amiss();
        byTheBook();
    }

    // ---- III

    private static void foretold() {
        sentence("FORETOLD behind n HOURS (1 .. 60; those that can pass), nothing else being done.");
        for (int n : new int[] {1, 2, 59, 60}) {
            RailsGrowWider x = ofLoads(1, 2, 3, 4, 5);
            RailsGrowWider y = ofLoads(1, 2, 3, 4, 5);
            y.hour(n);
            due("narrow behind " + n, x.foretold(n, 0), y.is(2));
            due("wide behind " + n, x.foretold(n, 1), y.is(3));
            due("WORN behind " + n, x.foretold(n, 2), wornTogether(y));
            due("HOUR", x.is(0), 0);
        }
        RailsGrowWider x = ofLoads(1, 2);
        due("0 HOURS", x.foretold(0, 0), NONE);
        due("61 HOURS", x.foretold(61, 0), NONE);
        due("9 at most each", x.foretold(60, 2), 18);
        due("no CARS, not WORN", new RailsGrowWider().foretold(60, 2), 0);
        for (int left = 0; left <= 3; left++) {
            RailsGrowWider y = atHour(9999 - left);
            y.car(0, 1);
            int worn = y.of(0, 5);
            due("as many as are left", y.foretold(60, 2), worn + left);
            due("as many as are left", y.foretold(2, 2), worn + Math.min(2, left));
            int narrow = y.foretold(60, 0);
            int wide = y.foretold(60, 1);
            if (left > 0) {
                y.hour(left);
            }
            due("narrow", narrow, y.is(2));
            due("wide", wide, y.is(3));
        }
    }

    private static int wornTogether(RailsGrowWider x) {
        int all = 0;
        for (int car = 0; car < x.about(0); car++) {
            all += x.of(car, 5);
        }
        return all;
    }

    private static void orders() {
        sentence("AN ORDER is a number: of all rows of CARS 0 .. 4 (told or not) one behind the other, by the lowest first ones, the number of that row (0 .. 119); of those told alone it is that row without the others.");
        int number = 0;
        RailsGrowWider five = ofLoads(1, 2, 3, 4, 5);
        RailsGrowWider two = ofLoads(1, 2);
        for (int code = 0; code < 3125; code++) {
            int[] row = {code / 625, code / 125 % 5, code / 25 % 5, code / 5 % 5, code % 5};
            if (all(row) == 31) {
                // each tenth, and the first and the last ones
                if (number % 10 == 0 || number < 3 || number > 116) {
                    rowIs(five, number, row);
                    rowIs(two, number, without(row, 2));
                }
                number++;
            }
        }
        due("rows", number, 120);
        due("-1", five.order(-1, 0), -2);
        due("120", five.order(120, 0), -2);
        due("without CARS", new RailsGrowWider().order(0, 0), -2);
        due("one CAR", ofLoads(1).order(119, 0), 0);
    }

    private static int all(int[] row) {
        int bits = 0;
        for (int car : row) {
            bits |= 1 << car;
        }
        return bits;
    }

    private static int[] without(int[] row, int told) {
        return Arrays.stream(row).filter(car -> car < told).toArray();
    }

    private static void rowIs(RailsGrowWider x, int order, int[] row) {
        for (int i = 0; i < row.length; i++) {
            due("order(" + order + ", " + i + ")", x.order(order, i), row[i]);
        }
        due("behind the last one", x.order(order, row.length), -2);
    }

    private static void shunts() {
        sentence("SHUNTS: by MOVES alone (feet and laws no matter: KINDS alone, HOUR as now) to all CARS on TRACK 2 in the ORDER WANTED (told; at first 0), the first lowest: the fewest; of like ones the lowest first (3 times from, and to), then the next, .. (0: it is so); none.");
        shuntsAre("no CARS: it is so", new RailsGrowWider());
        shuntsAre("one CAR", ofLoads(1), 2);
        shuntsAre("at first ORDER 0", ofLoads(1, 2), 1, 2, 5);
        shuntsAre("five CARS", ofLoads(1, 2, 3, 4, 5), 1, 1, 1, 1, 2, 5, 5, 5, 5);
        RailsGrowWider x = ofLoads(1, 2, 3, 4, 5);
        x.want(119);
        shuntsAre("the other way round", x, 2, 2, 2, 2, 2);
        RailsGrowWider y = ofLoads(1, 2);
        bringToWide(y);
        bringToWide(y);
        shuntsAre("6 7 2 5 or 7 6 5 2: the lowest", y, 6, 7, 2, 5);
        y.want(24);
        shuntsAre("1 ahead of 0: it is so", y);
        y.forbid(0, 0, true);
        shuntsAre("it is so, though they may not stand so", y);
        y.want(0);
        shuntsAreNone("alike ones may not", y);
        RailsGrowWider z = ofKinds(0, 1, 2);
        z.forbid(0, 1, true);
        shuntsAreNone("0 beside 1", z);
        z.want(6);
        due("0 2 1 can be", z.shunts(NONE) > 0, true);
        z.want(2);
        shuntsAreNone("of those told alone 0 1 2 too", z);
        shuntsAre("CAR 4 on TRACK 0, 3 2 1 0 on the pit", Stations.turned(), 5, 5, 5, 5, 2);
        lawsAndFeetNoMatter();
        fromNowOn();
        neverAgain();
    }

    /** Where they could be brought a moment ago, alike ones can't any more. */
    private static void neverAgain() {
        for (int cars = 2; cars <= 5; cars++) {
            for (int order = 0; order <= 119; order += 7) {
                for (int moves = 0; moves < cars; moves++) {
                    RailsGrowWider x = ofLoads(1, 2, 3, 4, 5);
                    x.back();
                    for (int k = 0; k < cars; k++) {
                        x.car(0, 1);
                    }
                    for (int k = 0; k < moves; k++) {
                        x.move(0, 1);
                    }
                    x.want(order);
                    due("now they can", x.shunts(NONE) > 0, true);
                    x.forbid(0, 0, true);
                    due("now they can't", x.shunts(NONE), -2);
                }
            }
        }
    }

    private static void fromNowOn() {
        RailsGrowWider x = ofLoads(1, 2);
        shuntsAre("as now", x, 1, 2, 5);
        x.move(0, 1);
        shuntsAre("as now", x, 2, 5);
        x.move(0, 1);
        shuntsAre("as now", x, 5, 5);
        x.undo();
        shuntsAre("as it was", x, 2, 5);
        x.back();
        shuntsAre("no CARS again", x);
    }

    private static void lawsAndFeetNoMatter() {
        RailsGrowWider x = ofLoads(1, 2);
        readAndRule(x, "moves 0;changes 0;");
        haveWheels(x, 0, 0);
        haveWheels(x, 1, 0);
        shuntsAre("laws and feet are no matter", x, 1, 2, 5);
        RailsGrowWider late = atHour(9999);
        late.car(0, 1);
        shuntsAre("nor is HOUR", late, 2);
    }

    private static void shuntsAre(String what, RailsGrowWider x, int... moves) {
        due(what + ": how many", x.shunts(NONE), moves.length);
        for (int i = 0; i < moves.length; i++) {
            due(what + ": shunts(" + i + ")", x.shunts(i), moves[i]);
        }
        due(what + ": behind the last one", x.shunts(moves.length), -2);
        due(what + ": shunts(-2)", x.shunts(-2), -2);
    }

    private static void shuntsAreNone(String what, RailsGrowWider x) {
        for (int i = -2; i <= 9; i++) {
            due(what + ": shunts(" + i + ")", x.shunts(i), -2);
        }
    }

    private static void reached() {
        sentence("REACHED: in how many ways CARS could stand by such MOVES from now on (as now, too).");
        int[] free = {1, 3, 12, 60, 360, 2520};
        int[] apart = {1, 3, 7, 5, 5, 5};
        RailsGrowWider x = new RailsGrowWider();
        for (int cars = 0; cars <= 5; cars++) {
            due(cars + " CARS", x.reach(), free[cars]);
            x.forbid(0, 0, true);
            // the upper two go to the TRACKS that are empty; of three and more none can move then
            due(cars + " CARS that may not", x.reach(), apart[cars]);
            x.forbid(0, 0, false);
            x.car(0, 1);
        }
        RailsGrowWider more = new RailsGrowWider();
        more.forbid(0, 0, true);
        for (int cars = 0; cars <= 5; cars++) {
            due(cars + " CARS that may not", more.reach(), apart[cars]);
            more.car(0, 1);
        }
        due("all that can be", Stations.turned().reach(), 2520);
        RailsGrowWider two = ofLoads(1, 2);
        two.move(0, 1);
        due("all that can be", two.reach(), 12);
        two.forbid(0, 0, true);
        due("from now on: never upon one another again", two.reach(), 6);
        RailsGrowWider one = ofLoads(1, 2, 3);
        bringToWide(one);
        one.move(0, 1);
        one.forbid(0, 0, true);
        due("one on each TRACK: as now alone", one.reach(), 1);
    }

    private static void rows() {
        sentence("ROWS: in how many rows the CARS of a TRACK could stand, none beside one it may not be (no CARS: 1);");
        long[] free = {1, 1, 2, 6, 24, 120};
        RailsGrowWider x = new RailsGrowWider();
        for (int cars = 0; cars <= 5; cars++) {
            due(cars + " CARS", x.rows(0), free[cars]);
            due("none on 1", x.rows(1), 1);
            due("none on 2", x.rows(2), 1);
            x.forbid(0, 0, true);
            due(cars + " CARS that may not", x.rows(0), cars <= 1 ? 1 : 0);
            x.forbid(0, 0, false);
            x.car(0, 1);
        }
        RailsGrowWider y = ofKinds(0, 1, 0, 1, 0);
        y.forbid(0, 0, true);
        due("0 1 0 1 0: 6 times 2", y.rows(0), 12);
        y.move(0, 1);
        due("0 1 0 1: 8 of 24 and 4 of 0 1 1 0", y.rows(0), 12);
        y.forbid(1, 1, true);
        due("0 1 0 1 and 1 0 1 0", y.rows(0), 8);
        due("one CAR", y.rows(1), 1);
        due("four on the pit", Stations.turned().rows(1), 24);
        due("one on TRACK 0", Stations.turned().rows(0), 1);
    }

    private static void theLowest() {
        sentence("THE LOWEST of them: the lowest first CAR, then the next, ..; none.");
        RailsGrowWider x = ofKinds(0, 0, 1, 1, 2);
        lowestIs(x, 0, 0, 1, 2, 3, 4);
        lowestIs(x, 1);
        x.forbid(0, 0, true);
        lowestIs(x, 0, 0, 2, 1, 3, 4);
        x.forbid(1, 1, true);
        lowestIs(x, 0, 0, 2, 1, 3, 4);
        x.forbid(0, 1, true);
        for (int i = -1; i <= 5; i++) {
            due("none", x.lowest(0, i), -2);
        }
        x.move(0, 1);
        lowestIs(x, 1, 4);
        RailsGrowWider y = ofLoads(1, 2, 3);
        y.move(0, 1);
        y.move(0, 1);
        lowestIs(y, 1, 1, 2);
        lowestIs(y, 0, 0);
        lowestIs(Stations.turned(), 1, 0, 1, 2, 3);
        lowestIs(Stations.turned(), 0, 4);
    }

    private static void lowestIs(RailsGrowWider x, int track, int... row) {
        for (int i = 0; i < row.length; i++) {
            due("lowest(" + track + ", " + i + ")", x.lowest(track, i), row[i]);
        }
        due("behind the last one", x.lowest(track, row.length), -2);
        due("ahead of the first one", x.lowest(track, -1), -2);
    }

    private static void theCrane() {
        sentence("THE CRANE lifts one CAR behind the other (TIMES told: lift, roll 1 .. 20; at first 1 each), each rolls, as soon as it is lifted and the one ahead has rolled: by which ORDER all is done first, and when (of like ones the lowest ORDER of all 120; without CARS 0, 0).");
        RailsGrowWider x = new RailsGrowWider();
        craneIs("without CARS", x, 0, 0);
        for (int cars = 1; cars <= 5; cars++) {
            x.car(0, 1);
            craneIs("1 each of " + cars, x, cars + 1, 0);
        }
        for (int car = 0; car <= 4; car++) {
            due("20, 20", x.times(car, 20, 20), true);
            due("21, 20", x.times(car, 21, 20), false);
            due("20, 21", x.times(car, 20, 21), false);
            due("0, 20", x.times(car, 0, 20), false);
            due("20, 0", x.times(car, 20, 0), false);
        }
        craneIs("20 each", x, 120, 0);
        RailsGrowWider one = ofLoads(1);
        one.times(0, 20, 1);
        craneIs("one CAR", one, 21, 0);
        one.times(0, 1, 20);
        craneIs("one CAR", one, 21, 0);
        RailsGrowWider two = ofLoads(1, 2);
        two.times(0, 20, 1);
        two.times(1, 1, 20);
        craneIs("1 ahead of 0: the lowest of all 120 is 1 0 2 3 4", two, 22, 24);
        RailsGrowWider three = ofLoads(1, 2, 3);
        three.times(0, 1, 20);
        three.times(1, 20, 1);
        three.times(2, 2, 20);
        craneIs("0 2 1 3 4", three, 42, 6);
        RailsGrowWider five = ofLoads(1, 2, 3, 4, 5);
        for (int car = 0; car <= 4; car++) {
            five.times(car, 20, 5 - car);
        }
        craneIs("the shortest roll last", five, 101, 0);
        for (int car = 0; car <= 4; car++) {
            five.times(car, 5 - car, 20);
        }
        craneIs("the shortest lift first", five, 101, 96);
    }

    private static void craneIs(String what, RailsGrowWider x, int time, int order) {
        due(what + ": time", x.crane(true), time);
        due(what + ": ORDER", x.crane(false), order);
    }

    private static void idle() {
        sentence("IDLE: how long in it nothing rolls, from the first lift's beginning to the end.");
        RailsGrowWider x = new RailsGrowWider();
        due("without CARS", x.idle(), 0);
        x.car(0, 1);
        due("the first lift", x.idle(), 1);
        x.times(0, 20, 20);
        due("the first lift", x.idle(), 20);
        x.car(0, 1);
        x.times(1, 20, 20);
        due("no longer: one rolls while the next is lifted", x.idle(), 20);
        x.times(0, 20, 1);
        x.times(1, 20, 1);
        due("between them too", x.idle(), 39);
        x.times(1, 1, 20);
        due("the shortest lift", x.idle(), 1);
    }

    // ---- IV

    private static void balances() {
        sentence("==== IV. RAILWAYS 0 .. 5 owe one another (told: a owes b so much more): BALANCE: what it is owed less what it owes.");
        RailsGrowWider x = new RailsGrowWider();
        for (int railway = 0; railway <= 5; railway++) {
            due("at first", x.balance(railway), 0);
        }
        due("-1", x.balance(-1), -100000);
        due("6", x.balance(6), -100000);
        due("0 owes 5", x.owe(0, 5, 99), true);
        due("so much more", x.owe(0, 5, 1), true);
        due("5 owes 0", x.owe(5, 0, 30), true);
        due("0", x.balance(0), -70);
        due("5", x.balance(5), 70);
        for (int k = 0; k < 400; k++) {
            x.owe(1, 2, 99);
        }
        due("39600 less", x.balance(1), -39600);
        due("39600 more", x.balance(2), 39600);
        due("none other", x.balance(3) + x.balance(4), 0);
        due("six and none", x.owe(6, 0, 1), false);
        due("none and six", x.owe(0, 6, 1), false);
        due("less than none", x.owe(-1, 0, 1), false);
        due("itself", x.owe(3, 3, 1), false);
    }

    private static RailsGrowWider owing(int... balances) {
        RailsGrowWider x = new RailsGrowWider();
        for (int railway = 0; railway < 5; railway++) {
            // all owe and are owed by the last one
            if (balances[railway] > 0) {
                x.owe(5, railway, balances[railway]);
            } else if (balances[railway] < 0) {
                x.owe(railway, 5, -balances[railway]);
            }
        }
        for (int railway = 0; railway <= 5; railway++) {
            due("BALANCE", x.balance(railway), balances[railway]);
        }
        return x;
    }

    private static void settledIs(int groups, int... balances) {
        RailsGrowWider x = owing(balances);
        due("GROUPS", x.settled(1), groups);
        due("payments", x.settled(0), 6 - groups);
    }

    private static void settled() {
        sentence("SETTLED: in as many GROUPS as can be, each owing nothing beyond it (RAILWAYS of BALANCE 0 each its own GROUP): how many GROUPS; by as many payments as there are RAILWAYS less GROUPS.");
        settledIs(6, 0, 0, 0, 0, 0, 0);
        settledIs(5, 1, 0, 0, 0, 0, -1);
        settledIs(5, 0, 0, 1, -1, 0, 0);
        settledIs(4, 1, 1, 0, 0, 0, -2);
        settledIs(4, 1, -1, 2, -2, 0, 0);
        settledIs(3, 1, -1, 2, -2, 3, -3);
        settledIs(3, 1, -1, 1, -1, 1, -1);
        settledIs(3, 1, 1, 1, 0, 0, -3);
        settledIs(2, 1, 2, -3, 4, 5, -9);
        settledIs(2, 1, 1, 1, 1, 0, -4);
        settledIs(1, 1, 2, 4, 8, 16, -31);
        settledIs(1, 99, 98, 97, -1, -2, -291);
        // they settle among themselves, though they never owed one another
        settledIs(3, 7, 7, 7, -7, -7, -7);
    }

    private static void groupsAre(int[] balances, int... groups) {
        RailsGrowWider x = owing(balances);
        for (int railway = 0; railway <= 5; railway++) {
            due("group(" + railway + ")", x.group(railway), groups[railway]);
        }
        due("group(-1)", x.group(-1), NONE);
        due("group(6)", x.group(6), NONE);
    }

    private static void groups() {
        sentence("A GROUP of a RAILWAY: of all such ways that in which the GROUP of RAILWAY 0 is the lowest set, then of the lowest one that isn't in it, ...");
        groupsAre(new int[] {0, 0, 0, 0, 0, 0}, 1, 2, 4, 8, 16, 32);
        groupsAre(new int[] {1, 0, 0, 0, 0, -1}, 33, 2, 4, 8, 16, 33);
        groupsAre(new int[] {1, 2, 4, 8, 16, -31}, 63, 63, 63, 63, 63, 63);
        groupsAre(new int[] {1, -1, 1, -1, 1, -1}, 3, 3, 12, 12, 48, 48);
        groupsAre(new int[] {1, 1, 1, -1, -1, -1}, 9, 18, 36, 9, 18, 36);
        groupsAre(new int[] {0, 1, 1, -1, -1, 0}, 1, 10, 20, 10, 20, 32);
        // {0, 2} and {0, 1, 5} are both of two GROUPS: 5 is lower than 35
        groupsAre(new int[] {3, 1, -3, 5, -2, -4}, 5, 58, 5, 58, 58, 58);
        // {1, 2} alone is a lower set, but {0, 1, 3} comes first, as the lowest one of RAILWAY 0
        groupsAre(new int[] {4, 1, -1, -5, 10, -9}, 11, 11, 52, 11, 52, 52);
        // {0, 1} is lower than {0, 5}
        groupsAre(new int[] {2, -2, 2, 3, -3, -2}, 3, 3, 36, 24, 24, 36);
        // {0, 1, 2} would be lower than {0, 3}, but {0, 3} {1, 4} {2, 5} are more
        groupsAre(new int[] {3, -1, -2, -3, 1, 2}, 9, 18, 36, 9, 18, 36);
    }

    private static void trips() {
        sentence("TRIPS (8 at most; told: from a day to a day, so many WHEELS are out, both days too).");
        RailsGrowWider x = new RailsGrowWider();
        for (int k = 1; k <= 8; k++) {
            due("trip", x.trip(0, 30, 9), k);
        }
        due("a ninth", x.trip(0, 30, 9), -2);
        due("8 still", x.about(4), 8);
        due("72 are out", x.stock(false), 72);
        due("none any more", x.trip(NONE, 0, 0), 0);
        due("none are out", x.stock(false), 0);
        due("on one day", x.trip(4, 4, 3), 1);
        due("the day ahead", x.trip(2, 3, 5), 2);
        due("both days aren't shared", x.stock(false), 5);
        due("the last day of one is the first of another", x.trip(3, 4, 1), 3);
        due("both days too", x.stock(false), 6);
        due("on the day that both share", x.stock(true), 3);
        for (int k = 4; k <= 8; k++) {
            due("trip", x.trip(30, 30, 1), k);
        }
        due("a ninth", x.trip(30, 30, 1), -2);
    }

    private static void stock() {
        sentence("STOCK: the least by which all can be served (without TRIPS 0); the first day on which one fewer fails.");
        RailsGrowWider x = new RailsGrowWider();
        stockIs(x, 0, NONE);
        x.trip(30, 30, 1);
        stockIs(x, 1, 30);
        x.trip(0, 0, 1);
        stockIs(x, 1, 0);
        x.trip(5, 10, 4);
        stockIs(x, 4, 5);
        x.trip(10, 12, 1);
        stockIs(x, 5, 10);
        x.trip(11, 30, 4);
        stockIs(x, 5, 10);
        x.trip(30, 30, 9);
        stockIs(x, 14, 30);
        x.trip(NONE, NONE, NONE);
        stockIs(x, 0, NONE);
    }

    private static void stockIs(RailsGrowWider x, int least, int day) {
        due("the least", x.stock(false), least);
        due("the first day", x.stock(true), day);
    }

    private static void seen() {
        sentence("SEEN (4 at most; told: after so many MOVES, 0 .. 3, from THE IMAGE on, a CAR was on a TRACK; CARS told since THE IMAGE were nowhere).");
        RailsGrowWider x = ofLoads(1);
        x.image();
        for (int k = 1; k <= 4; k++) {
            due("seen", x.seen(0, 0, 0), k);
        }
        due("a fifth", x.seen(0, 0, 1), -2);
        due("4 still", x.about(5), 4);
        due("it was not taken", x.histories(false), 1);
        due("none any more", x.seen(NONE, 0, 0), 0);
        due("-1 MOVES is none any more, -2 is none", x.seen(-2, 0, 0), -2);
        due("4 MOVES", x.seen(4, 0, 0), -2);
        due("3 MOVES", x.seen(3, 0, 0), 1);
        // CAR 1 is told since
        x.car(0, 2);
        x.seen(NONE, 0, 0);
        for (int track = 0; track <= 2; track++) {
            for (int moment = 0; moment <= 3; moment++) {
                x.seen(moment, 1, track);
                due("nowhere", x.histories(false), 0);
                due("nowhere", x.histories(true), NONE);
                x.seen(NONE, 0, 0);
            }
        }
        x.image();
        x.seen(0, 1, 0);
        due("it was there by the new IMAGE", x.histories(false), 1);
    }

    private static void histories() {
        sentence("HISTORIES: rows of MOVES (as in SHUNTS, by KINDS as they may stand now), as many as the greatest moment SEEN (0 without), that fit all: in how many ways; the lowest: as a number by 9 (3 times from, and to, of each; the first highest; of no MOVES 0).");
        RailsGrowWider x = ofLoads(1);
        historiesAre("without", x, 1, 0);
        x.image();
        historiesAre("without", x, 1, 0);
        // one CAR walks from TRACK to TRACK: by 1, 2, 3 MOVES
        int[][] ways = {{1, 0, 0}, {0, 1, 1}, {2, 1, 1}, {2, 3, 3}};
        int[][] lowest = {{0, NONE, NONE}, {NONE, 1, 2}, {9 + 3, 18 + 7, 9 + 5}, {81 + 45 + 6, 81 + 27 + 1, 81 + 27 + 2}};
        for (int moment = 0; moment <= 3; moment++) {
            for (int track = 0; track <= 2; track++) {
                x.seen(moment, 0, track);
                historiesAre("on " + track + " by " + moment, x, ways[moment][track], lowest[moment][track]);
                x.seen(NONE, 0, 0);
            }
        }
        x.seen(3, 0, 2);
        x.seen(0, 0, 0);
        x.seen(1, 0, 2);
        historiesAre("the greatest moment, whichever was told last: 2 7 5 or 2 6 2", x, 2, 162 + 54 + 2);
        x.seen(2, 0, 1);
        historiesAre("that fit all", x, 1, 162 + 63 + 5);
        x.seen(NONE, 0, 0);
        x.seen(1, 0, 1);
        x.seen(1, 0, 2);
        historiesAre("not on both", x, 0, NONE);
        historiesOfMany();
    }

    private static void historiesOfMany() {
        RailsGrowWider x = ofLoads(1, 2, 3, 4, 5);
        x.image();
        x.seen(3, 0, 0);
        // first 1, 2; then 0 to 1, 0 to 2, the one that moved to both others; all CARS may move: CAR 0 never does
        int ways = 0;
        int least = NONE;
        for (int row = 728; row >= 0; row--) {
            if (fits(row)) {
                ways++;
                least = row;
            }
        }
        historiesAre("five CARS", x, ways, least);
        due("the lowest is 1 1 1", least, 81 + 9 + 1);
        x.forbid(0, 0, true);
        // 4 off to one of the empty TRACKS, 3 to the other or 4 to and fro
        historiesAre("by KINDS as they may stand now: 1 5 7, 1 5 1, 2 7 5, 2 7 2, ..", x, 4, 81 + 45 + 1);
        RailsGrowWider y = new RailsGrowWider();
        y.car(0, 1);
        y.seen(0, 0, 0);
        historiesAre("no CAR in THE IMAGE", y, 0, NONE);
    }

    /** Whether three MOVES can be from five CARS on TRACK 0: how many are on each counts alone. */
    private static boolean fits(int row) {
        int[] on = {5, 0, 0};
        for (int digit = 81; digit > 0; digit /= 9) {
            int move = row / digit % 9;
            if (move / 3 == move % 3 || on[move / 3] == 0) {
                return false;
            }
            on[move / 3]--;
            on[move % 3]++;
        }
        return true;
    }

    private static void historiesAre(String what, RailsGrowWider x, int ways, int lowest) {
        due(what + ": ways", x.histories(false), ways);
        due(what + ": the lowest", x.histories(true), lowest);
    }

    private static void late() {
        sentence("LATE: each CAR is late by odds of 10 (told; at first 0):");
        RailsGrowWider x = ofLoads(1, 2);
        due("at first", x.likely(1, false), 1);
        due("at first", x.likely(1, true), 1);
        int[][] terms = {{1, 1}, {9, 10}, {4, 5}, {7, 10}, {3, 5}, {1, 2}, {2, 5}, {3, 10}, {1, 5}, {1, 10}, {0, 1}};
        for (int odds = 0; odds <= 10; odds++) {
            due("late", x.late(0, odds), true);
            due("upper", x.likely(1, false), terms[odds][0]);
            due("lower", x.likely(1, true), terms[odds][1]);
        }
        due("-1", x.late(0, -1), false);
        due("11", x.late(0, 11), false);
        due("10 still", x.likely(1, false), 0);
        due("CAR 1 by 0 still", x.likely(2, false), 1);
        x.back();
        x.car(0, 1);
        due("a new CAR", x.likely(1, false), 1);
    }

    private static void likely() {
        sentence("LIKELY: that none of some CARS (bits) is, in lowest terms.");
        RailsGrowWider x = new RailsGrowWider();
        likelyIs(x, 0, 1, 1);
        likelyIs(x, 1, NONE, NONE);
        for (int car = 0; car <= 4; car++) {
            x.car(0, 1);
            likelyIs(x, (2 << car) - 1, car == 0 ? 1 : power(9, car), car == 0 ? 1 : power(10, car));
            likelyIs(x, 2 << car, NONE, NONE);
            x.late(car, 1);
        }
        likelyIs(x, 31, 59049, 100000);
        likelyIs(x, 16, 9, 10);
        likelyIs(x, 0, 1, 1);
        likelyIs(x, 32, NONE, NONE);
        likelyIs(x, -1, NONE, NONE);
        x.late(4, 10);
        likelyIs(x, 31, 0, 1);
        x.late(4, 0);
        x.late(3, 5);
        x.late(2, 6);
        // 9/10 * 9/10 * 2/5 * 1/2
        likelyIs(x, 31, 81, 500);
        likelyIs(x, 12, 1, 5);
    }

    private static long power(long of, int n) {
        return n == 0 ? 1 : of * power(of, n - 1);
    }

    private static void likelyIs(RailsGrowWider x, int cars, long upper, long lower) {
        due("likely(" + cars + ", false)", x.likely(cars, false), upper);
        due("likely(" + cars + ", true)", x.likely(cars, true), lower);
    }

    private static void whoseLaw() {
        sentence("WHOSE LAW (told: SAID, 8 at most: a CAR, changes -9 .. 9): TEXTS (bits) by whose changes all are so (as now).");
        RailsGrowWider x = ofLoads(1, 9);
        due("no TEXTS", x.whose(), 0);
        x.said(0, 1);
        due("no TEXTS", x.whose(), 0);
        x.said(NONE, 0);
        read(x, "changes load;");
        read(x, "changes -load;");
        read(x, "changes load+1;moves 9;");
        read(x, "moves 5;");
        due("nothing said: all", x.whose(), 15);
        due("9", x.said(1, 9), 1);
        due("one says 9", x.whose(), 1);
        x.said(NONE, 0);
        due("-9", x.said(1, -9), 1);
        due("one says -9", x.whose(), 2);
        due("10", x.said(1, 10), -2);
        due("-10", x.said(1, -10), -2);
        x.said(NONE, 0);
        x.said(0, 1);
        due("load, and the one without changes", x.whose(), 9);
        for (int k = 2; k <= 8; k++) {
            due("said", x.said(0, 1), k);
        }
        due("a ninth", x.said(0, 2), -2);
        due("all 8 fit", x.whose(), 9);
        x.said(NONE, 0);
        for (int k = 1; k <= 7; k++) {
            x.said(0, 1);
        }
        x.said(0, 2);
        due("the eighth doesn't", x.whose(), 0);
        asNow();
    }

    private static void asNow() {
        RailsGrowWider x = ofLoads(1);
        read(x, "changes hour;");
        read(x, "changes narrow;");
        x.said(0, 1);
        due("narrow is 1", x.whose(), 2);
        x.lend(0, 1);
        due("none", x.whose(), 0);
        x.hour(1);
        due("HOUR is 1", x.whose(), 1);
    }

    private static void heaviest() {
        sentence("HEAVIEST: the TRACK of most LOAD (above 0); of like ones the lowest; none.");
        RailsGrowWider x = new RailsGrowWider();
        due("none", x.heaviest(), NONE);
        x.car(0, 1);
        due("1 on 0", x.heaviest(), 0);
        x.move(0, 1);
        due("1 on 1", x.heaviest(), 1);
        x.car(0, 1);
        due("like ones: the lowest", x.heaviest(), 0);
        x.car(0, 1);
        due("2 on 0", x.heaviest(), 0);
        RailsGrowWider y = ofLoads(2, 2, 2);
        bringToWide(y);
        y.move(0, 1);
        due("three like ones", y.heaviest(), 0);
        y.move(0, 1);
        due("4 on 1, 2 on 2", y.heaviest(), 1);
        RailsGrowWider z = ofLoads(5, 5);
        bringToWide(z);
        z.move(0, 1);
        due("like ones on 1 and 2", z.heaviest(), 1);
        z.car(0, 4);
        due("4, 5, 5", z.heaviest(), 1);
        RailsGrowWider went = ofLoads(5, 9);
        went.move(0, 1);
        due("9 on 1: it is no more on 0", went.heaviest(), 1);
        RailsGrowWider all = ofLoads(9, 9, 9, 9, 9);
        due("45", all.heaviest(), 0);
        due("10 on the pit, 5 on 0", Stations.turned().heaviest(), 1);
        RailsGrowWider wide = ofLoads(9);
        bringToWide(wide);
        due("9 on 2", wide.heaviest(), 2);
    }

    private static void mostWorn() {
        sentence("MOST WORN: the CAR most WORN (above 0); of like ones the lowest; none.");
        RailsGrowWider x = new RailsGrowWider();
        due("no CARS", x.worn(), NONE);
        due("five CARS, none WORN", ofLoads(1, 2, 3, 4, 5).worn(), NONE);
        due("five CARS, none WORN", Stations.turned().worn(), NONE);
        x.hour(1);
        x.car(0, 1);
        x.car(0, 2);
        due("none is WORN", x.worn(), NONE);
        wear(x, 1);
        due("1 by 1", x.worn(), 1);
        wear(x, 0);
        due("like ones", x.worn(), 0);
        wear(x, 1);
        due("1 by 2", x.worn(), 1);
        for (int k = 0; k < 9; k++) {
            wear(x, 0);
        }
        due("0 by 9", x.worn(), 0);
        for (int k = 0; k < 9; k++) {
            wear(x, 1);
        }
        due("both by 9", x.worn(), 0);
    }

    /** An HOUR by which this one of two CARS is more WORN. */
    private static void wear(RailsGrowWider x, int car) {
        drawUntil(x, drawn -> drawn % 10 == 9 && drawnAnew(drawn) % 2 == car);
        x.hour(1);
    }

    private static void amiss() {
        sentence("AMISS: how many CARS stand beside one that they may not (each such pair once).");
        RailsGrowWider x = new RailsGrowWider();
        x.forbid(0, 0, true);
        for (int cars = 0; cars <= 5; cars++) {
            due(cars + " CARS", x.amiss(), Math.max(0, cars - 1));
            x.car(0, 1);
        }
        x.move(0, 1);
        due("one less beside", x.amiss(), 3);
        RailsGrowWider y = ofKinds(0, 1, 0);
        y.forbid(0, 0, true);
        due("not beside one another", y.amiss(), 0);
        y.forbid(0, 1, true);
        due("both pairs", y.amiss(), 2);
        RailsGrowWider z = ofKinds(0, 0);
        z.move(0, 1);
        z.forbid(0, 0, true);
        due("each on top of its own TRACK", z.amiss(), 0);
        RailsGrowWider all = ofKinds(2, 2, 3, 3);
        all.move(0, 1);
        all.move(0, 1);
        all.forbid(2, 2, true);
        all.forbid(3, 3, true);
        due("one pair on each of two TRACKS", all.amiss(), 2);
        RailsGrowWider turned = Stations.turned();
        due("none may not", turned.amiss(), 0);
        turned.forbid(0, 0, true);
        due("four on the pit, one on TRACK 0", turned.amiss(), 3);
    }

    private static void byTheBook() {
        sentence("BY THE BOOK: how many lines there are of a kind.");
        RailsGrowWider x = ofLoads(1);
        for (int what = 0; what <= 2; what++) {
            due("none", x.ledger(what), 0);
        }
        due("-1", x.ledger(-1), -2);
        due("3", x.ledger(3), -2);
        x.move(0, 1);
        x.lend(1, 8);
        for (int k = 0; k < 28; k++) {
            x.change();
        }
        due("moved", x.ledger(0), 1);
        due("changed", x.ledger(1), 28);
        haveWheels(x, 1, 1);
        drawUntil(x, drawn -> drawn % 10 == 3);
        x.hour(1);
        due("broken", x.ledger(2), 1);
        due("moved", x.ledger(0), 1);
        x.change();
        due("no WHEELS", x.ledger(1), 28);
        x.lend(1, 1);
        x.change();
        due("moved: out of the BOOK", x.ledger(0), 0);
        due("changed", x.ledger(1), 29);
        due("broken", x.ledger(2), 1);
    }
}
