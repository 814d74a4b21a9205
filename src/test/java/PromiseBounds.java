import java.util.function.Consumer;
import java.util.function.ToLongFunction;

/** The promises 1 to 49: what each call takes and refuses, and that nothing is changed by what is refused. */
final class PromiseBounds extends Checks {
    /** Values that no argument of any call takes. */
    private static final int[] FAR = {LEAST, -100001, MOST - 1, MOST};

    private PromiseBounds() {
    }

    static void all() {
        whatIsTold();
        theTape();
        whatIsDone();
        whatIs();
        whatFollows();
        accountsAndTrips();
        histories();
        imageAndBack();
        questionsChangeNothing();
    }

    // ---- the three stations in which all that is refused is tried

    private static void refused(String call, ToLongFunction<RailsGrowWider> asked, long answer) {
        Whole.unchanged("in a new station " + call, x -> { }, asked, answer);
        Whole.unchanged("in a busy one " + call, Stations::makeBusy, asked, answer);
        Whole.unchanged("in a full one " + call, Stations::makeFull, asked, answer);
    }

    private static void refusedWhere(Consumer<RailsGrowWider> setUp, String call, ToLongFunction<RailsGrowWider> asked, long answer) {
        Whole.unchanged(call, setUp, asked, answer);
    }

    private static long bit(boolean is) {
        return is ? 1 : 0;
    }

    /** What isn't within least .. most: just beside it, and far off. */
    private static int[] beside(int least, int most) {
        int[] all = new int[2 + FAR.length];
        all[0] = least - 1;
        all[1] = most + 1;
        System.arraycopy(FAR, 0, all, 2, FAR.length);
        return all;
    }

    // ---- promises 1 to 4

    private static void whatIsTold() {
        newObject();
        car();
        forbid();
        times();
    }

    private static void newObject() {
        sentence("`RailsGrowWider()`: No car; THE IMAGE is this.");
        RailsGrowWider x = new RailsGrowWider();
        int[] about = {0, 0, NONE, 0, 0, 0, 0, 0};
        for (int what = 0; what <= 7; what++) {
            due("about(" + what + ")", x.about(what), about[what]);
        }
        refusedWhere(y -> { }, "back", RailsGrowWider::back, 0);
        refusedWhere(y -> { }, "undo", RailsGrowWider::undo, NONE);
        // what one object is told another one doesn't know
        Stations.full();
        due("another one", new RailsGrowWider().about(0), 0);
    }

    private static void car() {
        sentence("`int car(int kind, int load)`: A CAR: its number. NONE for others (KINDS 0 .. 3; 1 .. 9), or if there are 5.");
        for (int bad : beside(0, 3)) {
            refused("car(" + bad + ", 1)", x -> x.car(bad, 1), NONE);
        }
        for (int bad : beside(1, 9)) {
            refused("car(0, " + bad + ")", x -> x.car(0, bad), NONE);
        }
        refusedWhere(Stations::makeFull, "a sixth CAR", x -> x.car(0, 1), NONE);
        refusedWhere(Stations::makeFull, "a sixth CAR", x -> x.car(3, 9), NONE);
        RailsGrowWider x = new RailsGrowWider();
        int[][] taken = {{0, 1}, {3, 9}, {0, 9}, {3, 1}, {2, 5}};
        for (int car = 0; car < 5; car++) {
            due("car", x.car(taken[car][0], taken[car][1]), car);
            due("KIND", x.of(car, 0), taken[car][0]);
            due("LOAD", x.of(car, 1), taken[car][1]);
        }
    }

    private static void forbid() {
        sentence("`boolean forbid(int a, int b, boolean is)`: KINDS that may not stand beside one another, told, or may: true. False for others.");
        for (int bad : beside(0, 3)) {
            refused("forbid(" + bad + ", 0, true)", x -> bit(x.forbid(bad, 0, true)), 0);
            refused("forbid(0, " + bad + ", true)", x -> bit(x.forbid(0, bad, true)), 0);
            refused("forbid(" + bad + ", 1, false)", x -> bit(x.forbid(bad, 1, false)), 0);
            refused("forbid(1, " + bad + ", false)", x -> bit(x.forbid(1, bad, false)), 0);
        }
        for (int a = 0; a <= 3; a++) {
            for (int b = 0; b <= 3; b++) {
                RailsGrowWider x = ofKinds(a, b);
                due("may", x.forbid(a, b, false), true);
                due("amiss", x.amiss(), 0);
                due("may not", x.forbid(a, b, true), true);
                due("told again", x.forbid(a, b, true), true);
                due("amiss", x.amiss(), 1);
                due("may", x.forbid(a, b, false), true);
                due("amiss", x.amiss(), 0);
            }
        }
    }

    private static void times() {
        sentence("`boolean times(int car, int lift, int roll)`: TIMES told: true. False for others (1 .. 20).");
        for (int bad : beside(0, 4)) {
            refused("times(" + bad + ", 2, 2)", x -> bit(x.times(bad, 2, 2)), 0);
        }
        refusedWhere(x -> { }, "no CAR 0", x -> bit(x.times(0, 2, 2)), 0);
        refusedWhere(Stations::makeBusy, "no CAR 4", x -> bit(x.times(4, 2, 2)), 0);
        for (int bad : beside(1, 20)) {
            refused("times(0, " + bad + ", 2)", x -> bit(x.times(0, bad, 2)), 0);
            refused("times(0, 2, " + bad + ")", x -> bit(x.times(0, 2, bad)), 0);
        }
        RailsGrowWider x = ofLoads(1);
        for (int lift : new int[] {1, 20}) {
            for (int roll : new int[] {1, 20}) {
                due("times", x.times(0, lift, roll), true);
                due("crane", x.crane(true), lift + roll);
                due("idle", x.idle(), lift);
            }
        }
    }

    // ---- promises 5 to 9

    private static void theTape() {
        feed();
        end();
        text();
        fault();
        by();
    }

    private static void feed() {
        sentence("`int feed(int a, int b, int c, int d, int e)`: Twenty bytes come behind the tape, the highest of a first: how many it has. NONE, and none come, if there would be more than 300.");
        for (int length : new int[] {281, 282, 299, 300}) {
            refusedWhere(x -> write(x, padded("hour 7;", length)), "feed behind " + length, x -> x.feed(LEAST, -1, 0, 1, MOST), NONE);
        }
        refusedWhere(Stations::makeFull, "feed behind 300", x -> x.feed(1, 2, 3, 4, 5), NONE);
        for (int length : new int[] {0, 1, 19, 20, 279, 280}) {
            RailsGrowWider x = new RailsGrowWider();
            write(x, " ".repeat(length));
            due("feed behind " + length, feedTwenty(x, "hour 7;             ", 0), length + 20);
            due("bytes", x.about(7), length + 20);
            due("text", x.text(), 0);
            due("played", x.played(0), NONE);
            due("HOUR", x.is(0), 7);
        }
        // each of the twenty bytes comes to its place
        for (int place = 0; place < 20; place++) {
            for (char sign : new char[] {'?', 0, 127, 128, 255}) {
                RailsGrowWider x = new RailsGrowWider();
                feedTwenty(x, " ".repeat(place) + sign + " ".repeat(19 - place), 0);
                due("text", x.text(), NONE);
                due("place", x.fault(1), place);
            }
        }
        RailsGrowWider y = new RailsGrowWider();
        for (int k = 1; k <= 15; k++) {
            due("feed", y.feed(-1, -1, -1, -1, -1), 20 * k);
        }
        due("a sixteenth", y.feed(-1, -1, -1, -1, -1), NONE);
        due("300", y.about(7), 300);
    }

    private static void end() {
        sentence("`int end(int n)`: The tape has its first n bytes alone: n. NONE, and nothing is done, if it has not so many, or n is below 0.");
        refused("end(-1)", x -> x.end(-1), NONE);
        refused("end(301)", x -> x.end(301), NONE);
        for (int bad : FAR) {
            refused("end(" + bad + ")", x -> x.end(bad), NONE);
        }
        for (int length : new int[] {0, 1, 19, 20, 300}) {
            refusedWhere(x -> write(x, padded("", length)), "one more", x -> x.end(length + 1), NONE);
            refusedWhere(x -> write(x, padded("", length)), "all of them", x -> x.end(length), length);
        }
        RailsGrowWider x = new RailsGrowWider();
        due("an empty tape", x.end(0), 0);
        write(x, "change;hour 5;");
        due("its first 14", x.end(14), 14);
        due("its first 7", x.end(7), 7);
        due("no more 14", x.end(14), NONE);
        due("no more 8", x.end(8), NONE);
        due("feed", feedTwenty(x, "hour 1;", 0), 27);
        due("its first 14", x.end(14), 14);
        due("change;hour 1;", x.text(), 0);
        due("change can't be", x.played(0), 0);
        due("nothing left", x.end(1), NONE);
        due("nothing left", x.end(0), 0);
    }

    private static void text() {
        sentence("`int text()`: The tape (empty then) is a TEXT: its number. NONE: it has a FAULT; or (the tape stays) there are 4.");
        RailsGrowWider x = new RailsGrowWider();
        due("an empty tape", x.text(), 0);
        due("TEXTS", x.about(1), 1);
        due("with a FAULT", read(x, "hour 0;"), NONE);
        due("TEXTS", x.about(1), 1);
        due("the tape is empty then", x.about(7), 0);
        due("text", read(x, padded("hour 1;", 300)), 1);
        due("the tape is empty then", x.about(7), 0);
        due("text", x.text(), 2);
        due("text", read(x, "hour 3;"), 3);
        due("HOUR", x.played(1) + x.is(0), NONE + 1);
        write(x, "hour 0;");
        due("there are 4", x.text(), NONE);
        due("the tape stays", x.about(7), 7);
        due("it is not read", x.fault(0), 0);
        due("TEXTS", x.about(1), 4);
        due("HOUR", x.played(3) + x.is(0), NONE + 4);
        refusedWhere(Stations::makeFull, "text, there are 4", RailsGrowWider::text, NONE);
        refusedWhere(PromiseBounds::fourAndAFault, "text, there are 4", RailsGrowWider::text, NONE);
        // there is room again behind BACK
        RailsGrowWider y = Stations.full();
        y.back();
        due("the tape stayed", y.text(), 0);
        due("it is as it was", y.played(0) + y.is(0), NONE + 60);
        // with a FAULT nothing but the tape and the latest FAULT is other
        RailsGrowWider one = Stations.busy();
        RailsGrowWider other = Stations.busy();
        due("with a FAULT", read(one, "hour 61;"), NONE);
        other.end(0);
        Whole.alike("behind a FAULT", Whole.usedUp(one), Whole.usedUp(other));
    }

    private static void fourAndAFault(RailsGrowWider x) {
        x.text();
        x.text();
        x.text();
        read(x, "moves 1;moves 1;");
        x.text();
        write(x, "hour 61;");
    }

    private static void fault() {
        sentence("`int fault(int what)`: Of the latest text that was read: 0 its FAULT (0 without), 1 its place (NONE without). NONE for others, and ahead of any.");
        for (int bad : beside(0, 1)) {
            refused("fault(" + bad + ")", x -> x.fault(bad), NONE);
        }
        RailsGrowWider x = new RailsGrowWider();
        faultIs(x, NONE, NONE);
        write(x, "hour 61;");
        faultIs(x, NONE, NONE);
        x.text();
        faultIs(x, 2, 5);
        write(x, "hour 1;");
        faultIs(x, 2, 5);
        x.text();
        faultIs(x, 0, NONE);
        String[] each = {"?", "hour 0;", "moves (((((((((", "moves 1;moves", "moves broad;", "hour 1;".repeat(25)};
        int[] places = {0, 5, 14, 8, 6, 168};
        for (int k = 0; k < 6; k++) {
            read(x, each[k]);
            faultIs(x, k + 1, places[k]);
        }
        read(x, "");
        faultIs(x, 0, NONE);
        read(x, padded("change", 300));
        faultIs(x, 1, 300);
    }

    private static void faultIs(RailsGrowWider x, int fault, int place) {
        due("fault(0)", x.fault(0), fault);
        due("fault(1)", x.fault(1), place);
        due("fault(2)", x.fault(2), NONE);
        due("fault(-1)", x.fault(-1), NONE);
    }

    private static void by() {
        sentence("`boolean by(int text)`: THE TEXT (NONE: none): true. False for others.");
        for (int bad : new int[] {-2, 4, 5, LEAST, MOST}) {
            refused("by(" + bad + ")", x -> bit(x.by(bad)), 0);
        }
        refusedWhere(x -> { }, "no TEXT 0", x -> bit(x.by(0)), 0);
        refusedWhere(Stations::makeBusy, "no TEXT 2", x -> bit(x.by(2)), 0);
        refusedWhere(x -> { }, "none", x -> bit(x.by(NONE)), 1);
        RailsGrowWider x = ofLoads(1);
        for (int text = 0; text <= 3; text++) {
            read(x, "moves " + (text + 5) + ";");
            for (int k = 0; k <= text; k++) {
                due("by", x.by(k), true);
                due("THE TEXT", x.about(2), k);
                due("law", x.law(0, 1), k + 5);
            }
        }
        due("by(NONE)", x.by(NONE), true);
        due("none", x.about(2), NONE);
        due("law", x.law(0, 1), 1);
    }

    // ---- promises 10 to 16

    private static void whatIsDone() {
        move();
        change();
        lend();
        hour();
        played();
        years();
        undo();
    }

    private static void move() {
        sentence("`int move(int from, int to)`: MOVED: the CAR. NONE, if it can't be, and for others (TRACKS 0 .. 2).");
        for (int bad : beside(0, 2)) {
            refused("move(" + bad + ", 0)", x -> x.move(bad, 0), NONE);
            refused("move(0, " + bad + ")", x -> x.move(0, bad), NONE);
            refused("move(" + bad + ", " + bad + ")", x -> x.move(bad, bad), NONE);
        }
        for (int track = 0; track <= 2; track++) {
            int same = track;
            refused("move(" + track + ", " + track + ")", x -> x.move(same, same), NONE);
            refusedWhere(x -> { }, "of no CARS", x -> x.move(same, (same + 1) % 3), NONE);
            refusedWhere(x -> { }, "of no CARS", x -> x.move(same, (same + 2) % 3), NONE);
        }
        refusedWhere(Stations::makeBusy, "narrow feet to 2", x -> x.move(0, 2), NONE);
        refusedWhere(Stations::makeBusy, "wide feet to 0", x -> x.move(2, 0), NONE);
        refusedWhere(PromiseBounds::apart, "beside one that it may not", x -> x.move(0, 1), NONE);
        refusedWhere(PromiseBounds::stopped, "moves says 0", x -> x.move(0, 1), NONE);
        for (int car = 0; car <= 4; car++) {
            RailsGrowWider x = new RailsGrowWider();
            for (int k = 0; k <= car; k++) {
                x.car(0, 1);
            }
            due("the CAR", x.move(0, 1), car);
        }
    }

    private static void apart(RailsGrowWider x) {
        Stations.makeBusy(x);
        x.back();
        x.move(0, 1);
        x.forbid(2, 1, true);
    }

    private static void stopped(RailsGrowWider x) {
        Stations.makeBusy(x);
        readAndRule(x, "moves 0;changes 0;");
    }

    private static void change() {
        sentence("`int change()`: CHANGED: the CAR. NONE, if it can't be.");
        refusedWhere(x -> { }, "no CARS", RailsGrowWider::change, NONE);
        refusedWhere(x -> x.car(0, 1), "none on the pit", RailsGrowWider::change, NONE);
        refusedWhere(PromiseBounds::stopped, "changes says 0", RailsGrowWider::change, NONE);
        refusedWhere(PromiseBounds::withoutWide, "no wide WHEELS", RailsGrowWider::change, NONE);
        refusedWhere(PromiseBounds::withoutNarrow, "no narrow WHEELS", RailsGrowWider::change, NONE);
        for (int car = 0; car <= 4; car++) {
            RailsGrowWider x = new RailsGrowWider();
            for (int k = 0; k <= car; k++) {
                x.car(0, 1);
            }
            x.move(0, 1);
            due("the CAR", x.change(), car);
            due("bits", x.is(4), 1 << car);
        }
    }

    private static void withoutWide(RailsGrowWider x) {
        Stations.makeBusy(x);
        due("a narrow CAR on the pit", x.of(x.track(1, 0), 4), 0);
        haveWheels(x, 1, 0);
    }

    private static void withoutNarrow(RailsGrowWider x) {
        Stations.makeBusy(x);
        x.change();
        due("a wide CAR on the pit", x.of(x.track(1, 0), 4), 1);
        haveWheels(x, 0, 0);
    }

    private static void lend() {
        sentence("`boolean lend(int wide, int n)`: WHEELS come (n above 0), or go (below): true. False for others (wide 0, 1; -9 .. 9, not 0), and if there would be fewer than 0, or more than 9.");
        for (int bad : beside(0, 1)) {
            refused("lend(" + bad + ", 1)", x -> bit(x.lend(bad, 1)), 0);
            refused("lend(" + bad + ", -1)", x -> bit(x.lend(bad, -1)), 0);
        }
        for (int wide = 0; wide <= 1; wide++) {
            int of = wide;
            for (int bad : beside(-9, 9)) {
                refused("lend(" + wide + ", " + bad + ")", x -> bit(x.lend(of, bad)), 0);
            }
            refused("lend(" + wide + ", 0)", x -> bit(x.lend(of, 0)), 0);
            for (int had = 0; had <= 9; had++) {
                lendFrom(wide, had);
            }
        }
    }

    private static void lendFrom(int wide, int had) {
        for (int n = -9; n <= 9; n++) {
            int many = n;
            if (had + n < 0 || had + n > 9) {
                refusedWhere(x -> haveWheels(x, wide, had), "lend to " + (had + n), x -> bit(x.lend(wide, many)), 0);
            } else if (n != 0) {
                RailsGrowWider x = new RailsGrowWider();
                haveWheels(x, wide, had);
                due("lend to " + (had + n), x.lend(wide, n), true);
                due("WHEELS", x.is(2 + wide), had + n);
                due("the others", x.is(3 - wide), 1);
            }
        }
    }

    private static void hour() {
        sentence("`int hour(int n)`: HOURS pass (1 .. 60): how many WHEELS break in them. NONE for others, or beyond 9999 (nothing is done then).");
        for (int bad : beside(1, 60)) {
            refused("hour(" + bad + ")", x -> x.hour(bad), NONE);
        }
        refused("hour(-1)", x -> x.hour(-1), NONE);
        for (int left = 0; left <= 3; left++) {
            int rest = left;
            for (int n = left + 1; n <= 60; n += 7) {
                int many = n;
                refusedWhere(x -> near(x, 9999 - rest), n + " of " + left, x -> x.hour(many), NONE);
            }
            RailsGrowWider y = atHour(9999 - left);
            due("all that are left", left == 0 || y.hour(left) >= 0, true);
            due("HOUR", y.is(0), 9999);
        }
        refusedWhere(x -> lateBy(x, 40), "60 of 59", x -> x.hour(60), NONE);
        RailsGrowWider z = new RailsGrowWider();
        lateBy(z, 39);
        due("60 of 60", z.hour(60) >= 0, true);
        due("HOUR", z.is(0), 9999);
        broken();
    }

    private static void near(RailsGrowWider x, int hour) {
        x.car(1, 1);
        passAllHours(x);
        for (int k = 9999; k > hour; k--) {
            x.undo();
        }
    }

    /** HOUR is 9900 and n more. */
    private static void lateBy(RailsGrowWider x, int n) {
        int text = read(x, "hour 60;".repeat(24));
        for (int k = 0; k < 6; k++) {
            x.played(text);
        }
        for (int k = 0; k < 21; k++) {
            x.hour(60);
        }
        x.hour(n);
        due("HOUR", x.is(0), 9900 + n);
    }

    private static void broken() {
        for (int n : new int[] {1, 2, 59, 60}) {
            RailsGrowWider x = new RailsGrowWider();
            haveWheels(x, 0, 9);
            haveWheels(x, 1, 9);
            // never too few that they couldn't break, and without CARS one draw each
            int broken = 0;
            int drawn = 353;
            int[] wheels = {9, 9};
            for (int k = 0; k < n; k++) {
                int digit = drawn % 10;
                if (digit < 2) {
                    wheels[digit] = Math.min(9, wheels[digit] + 1);
                } else if (digit < 4 && wheels[digit - 2] > 0) {
                    wheels[digit - 2]--;
                    broken++;
                }
                drawn = drawnAnew(drawn);
            }
            due("break in " + n, x.hour(n), broken);
            due("HOUR", x.is(0), n);
            due("written down", x.ledger(2), Math.min(30, broken));
            due("narrow", x.is(2), wheels[0]);
            due("wide", x.is(3), wheels[1]);
        }
    }

    private static void played() {
        sentence("`int played(int text)`: PLAYED by a TEXT: NONE: all is done; else the number of the CLAUSE that can't be. -2 for others.");
        for (int bad : beside(0, 3)) {
            refused("played(" + bad + ")", x -> x.played(bad), -2);
        }
        refusedWhere(x -> { }, "no TEXT 0", x -> x.played(0), -2);
        refusedWhere(Stations::makeBusy, "no TEXT 2", x -> x.played(2), -2);
        refusedWhere(x -> read(x, "change;hour 1;"), "change can't be", x -> x.played(0), 0);
        refusedWhere(x -> read(x, "moves 1;lend 9 of 1;"), "lend can't be", x -> x.played(0), 1);
        refusedWhere(x -> read(x, ""), "nothing to do", x -> x.played(0), NONE);
        refusedWhere(x -> read(x, "moves 0;changes 0;"), "laws alone", x -> x.played(0), NONE);
        RailsGrowWider x = new RailsGrowWider();
        for (int text = 0; text <= 3; text++) {
            read(x, "hour " + (text + 1) + ";");
            due("all is done", x.played(text), NONE);
        }
        due("HOUR", x.is(0), 10);
    }

    private static void years() {
        sentence("`int years(int seed, int n)`: YEARS: HOUR. NONE for others.");
        for (int bad : beside(0, 9999)) {
            refused("years(" + bad + ", 1)", x -> x.years(bad, 1), NONE);
        }
        for (int bad : beside(1, 40)) {
            refused("years(0, " + bad + ")", x -> x.years(0, bad), NONE);
        }
        refused("years(0, -1)", x -> x.years(0, -1), NONE);
        for (int seed : new int[] {0, 9999}) {
            for (int n : new int[] {1, 40}) {
                RailsGrowWider x = ofLoads(1, 2);
                due("HOUR", x.years(seed, n), x.is(0));
                due("a STEP", x.about(3), 1);
            }
        }
    }

    private static void undo() {
        sentence("`int undo()`: The latest STEP is taken back: how many can be yet. NONE: there is none.");
        refusedWhere(x -> { }, "none", RailsGrowWider::undo, NONE);
        refusedWhere(x -> x.car(0, 1), "none", RailsGrowWider::undo, NONE);
        refusedWhere(PromiseBounds::allTakenBack, "none any more", RailsGrowWider::undo, NONE);
        for (int steps : new int[] {1, 2, 29, 30, 31, 60}) {
            RailsGrowWider x = new RailsGrowWider();
            x.hour(steps);
            int kept = Math.min(30, steps);
            for (int k = kept - 1; k >= 0; k--) {
                due("yet", x.undo(), k);
                due("yet", x.about(3), k);
                due("HOUR", x.is(0), steps - kept + k);
            }
            due("none", x.undo(), NONE);
            due("HOUR", x.is(0), steps - kept);
        }
        // none comes again by taking back: there is no STEP for it
        RailsGrowWider y = ofLoads(1);
        y.move(0, 1);
        y.undo();
        due("none", y.undo(), NONE);
        due("TRACK", y.of(0, 2), 0);
    }

    private static void allTakenBack(RailsGrowWider x) {
        Stations.makeFull(x);
        for (int k = 0; k < 30; k++) {
            x.undo();
        }
        due("STEPS", x.about(3), 0);
    }

    // ---- promises 17 to 21

    private static void whatIs() {
        of();
        track();
        law();
        is();
        book();
    }

    private static void of() {
        sentence("`int of(int car, int what)`: Of a CAR: 0 KIND, 1 LOAD, 2 its TRACK, 3 its place on it (0 the lowest), 4 whether its feet are wide (1, 0), 5 how WORN. NONE for others.");
        for (int what = 0; what <= 5; what++) {
            int of = what;
            for (int bad : beside(0, 4)) {
                refused("of(" + bad + ", " + what + ")", x -> x.of(bad, of), NONE);
            }
            refusedWhere(x -> { }, "no CAR 0", x -> x.of(0, of), NONE);
            refusedWhere(Stations::makeBusy, "no CAR 4", x -> x.of(4, of), NONE);
        }
        for (int bad : beside(0, 5)) {
            refused("of(0, " + bad + ")", x -> x.of(0, bad), NONE);
        }
        RailsGrowWider x = ofLoads(1, 2, 3, 4, 5);
        for (int car = 0; car <= 4; car++) {
            due("place", x.of(car, 3), car);
        }
        bringToWide(x);
        x.move(0, 1);
        x.move(0, 1);
        int[][] places = {{0, 0, 0}, {0, 1, 0}, {1, 1, 0}, {1, 0, 0}, {2, 0, 1}};
        for (int car = 0; car <= 4; car++) {
            for (int what = 2; what <= 4; what++) {
                due("of(" + car + ", " + what + ")", x.of(car, what), places[car][what - 2]);
            }
        }
    }

    private static void track() {
        sentence("`int track(int track, int i)`: How many CARS a TRACK has (i NONE), the i-th from the lowest on. -2 if there is none such, and for others.");
        for (int bad : beside(0, 2)) {
            refused("track(" + bad + ", -1)", x -> x.track(bad, NONE), -2);
            refused("track(" + bad + ", 0)", x -> x.track(bad, 0), -2);
        }
        for (int track = 0; track <= 2; track++) {
            int on = track;
            refused("track(" + track + ", -2)", x -> x.track(on, -2), -2);
            refused("track(" + track + ", 5)", x -> x.track(on, 5), -2);
            for (int bad : FAR) {
                refused("track(" + track + ", " + bad + ")", x -> x.track(on, bad), -2);
            }
            refusedWhere(x -> { }, "an empty TRACK", x -> x.track(on, 0), -2);
            refusedWhere(x -> { }, "an empty TRACK", x -> x.track(on, NONE), 0);
        }
        RailsGrowWider x = new RailsGrowWider();
        for (int cars = 0; cars <= 5; cars++) {
            due("how many", x.track(0, NONE), cars);
            for (int i = 0; i < 7; i++) {
                due("the i-th", x.track(0, i), i < cars ? i : -2);
            }
            x.car(0, 1);
        }
    }

    private static void law() {
        sentence("`int law(int from, int to)`: moves now of the uppermost CAR of a TRACK to another one (to unlike), changes of it (to like). -100 for others, or if there is no CAR.");
        for (int bad : beside(0, 2)) {
            for (int good = 0; good <= 2; good++) {
                int track = good;
                refused("law(" + bad + ", " + good + ")", x -> x.law(bad, track), -100);
                refused("law(" + good + ", " + bad + ")", x -> x.law(track, bad), -100);
            }
            refused("law(" + bad + ", " + bad + ")", x -> x.law(bad, bad), -100);
        }
        for (int k = 0; k < 9; k++) {
            int from = k / 3;
            int to = k % 3;
            refusedWhere(x -> { }, "no CAR", x -> x.law(from, to), -100);
        }
        RailsGrowWider x = ofLoads(1, 2, 3);
        readAndRule(x, "moves load*10+from*3+to;changes -load;");
        x.by(NONE);
        bringToWide(x);
        x.move(0, 1);
        x.by(0);
        for (int from = 0; from <= 2; from++) {
            for (int to = 0; to <= 2; to++) {
                due("law(" + from + ", " + to + ")", x.law(from, to), from == to ? -1 - from : 10 + 10 * from + 3 * from + to);
            }
        }
        RailsGrowWider low = ofLoads(1);
        readAndRule(low, "moves -9999;changes 9999;");
        due("-99, not -100", low.law(0, 1), -99);
        due("99", low.law(0, 0), 99);
        due("of an empty TRACK to one with a CAR", low.law(1, 0), -100);
        due("of an empty TRACK", low.law(2, 2), -100);
    }

    private static void is() {
        sentence("`int is(int what)`: 0 HOUR, 1 X, 2 narrow WHEELS, 3 wide WHEELS, 4 CARS with wide feet (bits). -2 for others.");
        for (int bad : beside(0, 4)) {
            refused("is(" + bad + ")", x -> x.is(bad), -2);
        }
        RailsGrowWider x = ofLoads(1, 2, 3, 4, 5);
        int bits = 0;
        for (int car = 4; car >= 0; car--) {
            due("bits", x.is(4), bits);
            bringToWide(x);
            bits |= 1 << car;
        }
        due("all of them", x.is(4), 31);
        due("HOUR", x.is(0), 0);
        due("X", x.is(1), 353);
    }

    private static void book() {
        sentence("`int book(int i, int what)`: BOOK: how many (i NONE); the i-th, from the eldest on: 0 HOUR, 1 CAR (NONE: none), 2 what (0 moved, 1 changed, 2 broken), 3 the TRACK it came to (moved), the width its feet have then (changed) or of what broke (0 narrow, 1 wide). -2 if there is none such, and for others.");
        for (int what = 0; what <= 3; what++) {
            int of = what;
            refused("book(-2, " + what + ")", x -> x.book(-2, of), -2);
            refused("book(30, " + what + ")", x -> x.book(30, of), -2);
            for (int bad : FAR) {
                refused("book(" + bad + ", " + what + ")", x -> x.book(bad, of), -2);
            }
            refusedWhere(x -> { }, "an empty BOOK", x -> x.book(0, of), -2);
            refusedWhere(Stations::makeBusy, "behind the latest", x -> x.book(x.book(NONE, of), of), -2);
        }
        for (int bad : beside(0, 3)) {
            refused("book(0, " + bad + ")", x -> x.book(0, bad), -2);
            refusedWhere(Stations::makeFull, "book(29, " + bad + ")", x -> x.book(29, bad), -2);
        }
        lines();
    }

    private static void lines() {
        RailsGrowWider x = ofLoads(1, 2, 3, 4, 5);
        x.move(0, 1);
        x.change();
        x.move(1, 2);
        x.move(2, 1);
        x.change();
        x.move(1, 0);
        haveWheels(x, 0, 1);
        drawUntil(x, drawn -> drawn % 10 == 2);
        x.hour(1);
        haveWheels(x, 1, 1);
        drawUntil(x, drawn -> drawn % 10 == 3);
        x.hour(1);
        x.move(0, 1);
        int[][] lines = {{0, 4, 0, 1}, {0, 4, 1, 1}, {0, 4, 0, 2}, {0, 4, 0, 1}, {0, 4, 1, 0}, {0, 4, 0, 0},
            {0, NONE, 2, 0}, {1, NONE, 2, 1}, {2, 4, 0, 1}};
        due("how many", x.book(NONE, 0), 9);
        for (int i = 0; i < 9; i++) {
            for (int what = 0; what <= 3; what++) {
                due("book(" + i + ", " + what + ")", x.book(i, what), lines[i][what]);
            }
        }
        RailsGrowWider late = atHour(9999);
        late.car(0, 1);
        late.move(0, 1);
        due("the latest HOUR", late.book(late.book(NONE, 0) - 1, 0), 9999);
        due("CAR 0", late.book(late.book(NONE, 0) - 1, 1), 0);
    }

    // ---- promises 22 to 30

    private static void whatFollows() {
        sentence("`int foretold(int n, int what)`: FORETOLD: 0 narrow WHEELS, 1 wide WHEELS, 2 WORN of all CARS together. NONE for others.");
        for (int bad : beside(1, 60)) {
            refused("foretold(" + bad + ", 0)", x -> x.foretold(bad, 0), NONE);
        }
        for (int bad : beside(0, 2)) {
            refused("foretold(1, " + bad + ")", x -> x.foretold(1, bad), NONE);
        }
        RailsGrowWider x = ofLoads(1, 2, 3, 4, 5);
        x.hour(60);
        x.hour(60);
        due("at most 9 each", x.foretold(60, 2), 45);
        sentence("`boolean want(int order)`: AN ORDER WANTED told: true. False for others (0 .. 119).");
        for (int bad : beside(0, 119)) {
            refused("want(" + bad + ")", y -> bit(y.want(bad)), 0);
        }
        RailsGrowWider z = ofLoads(1, 2);
        for (int order = 0; order <= 119; order++) {
            due("want", z.want(order), true);
            boolean first = z.order(order, 0) == 0;
            due("by how many", z.shunts(NONE), first ? 3 : 2);
        }
        shuntsAndReach();
        ordersAndRows();
        craneAndIdle();
    }

    private static void shuntsAndReach() {
        sentence("`int shunts(int i)`: SHUNTS: how many (i NONE), the i-th (3 times from, and to). -2: none, there is none such, and for others.");
        refused("shunts(-2)", x -> x.shunts(-2), -2);
        for (int bad : FAR) {
            refused("shunts(" + bad + ")", x -> x.shunts(bad), -2);
        }
        refusedWhere(x -> { }, "it is so", x -> x.shunts(NONE), 0);
        refusedWhere(x -> { }, "it is so", x -> x.shunts(0), -2);
        refusedWhere(Stations::makeBusy, "behind the last one", x -> x.shunts(x.shunts(NONE)), -2);
        refusedWhere(PromiseBounds::neverBeside, "none", x -> x.shunts(NONE), -2);
        refusedWhere(PromiseBounds::neverBeside, "none", x -> x.shunts(0), -2);
        sentence("`int reach()`: REACHED.");
        refusedWhere(x -> { }, "as now", RailsGrowWider::reach, 1);
        refusedWhere(x -> x.car(0, 1), "one CAR", RailsGrowWider::reach, 3);
        due("all", ofLoads(1, 2, 3, 4, 5).reach(), 2520);
    }

    private static void neverBeside(RailsGrowWider x) {
        Stations.makeBusy(x);
        for (int a = 0; a <= 3; a++) {
            for (int b = 0; b <= 3; b++) {
                x.forbid(a, b, true);
            }
        }
    }

    private static void ordersAndRows() {
        sentence("`int order(int order, int i)`: AN ORDER: the i-th CAR. -2 for others.");
        for (int bad : beside(0, 119)) {
            refused("order(" + bad + ", 0)", x -> x.order(bad, 0), -2);
        }
        for (int bad : beside(0, 4)) {
            refused("order(0, " + bad + ")", x -> x.order(0, bad), -2);
            refused("order(119, " + bad + ")", x -> x.order(119, bad), -2);
        }
        refusedWhere(x -> { }, "no CARS", x -> x.order(0, 0), -2);
        refusedWhere(Stations::makeBusy, "no fifth CAR", x -> x.order(0, 4), -2);
        sentence("`long rows(int track)`: ROWS of CARS of a TRACK. NONE for others.");
        for (int bad : beside(0, 2)) {
            refused("rows(" + bad + ")", x -> x.rows(bad), NONE);
            refused("lowest(" + bad + ", 0)", x -> x.lowest(bad, 0), -2);
        }
        for (int track = 0; track <= 2; track++) {
            int of = track;
            refusedWhere(x -> { }, "no CARS", x -> x.rows(of), 1);
            refusedWhere(x -> { }, "no CARS", x -> x.lowest(of, 0), -2);
        }
        sentence("`int lowest(int track, int i)`: THE LOWEST ROW: the i-th CAR. -2: none, there is none such, and for others.");
        for (int bad : beside(0, 4)) {
            for (int track = 0; track <= 2; track++) {
                int of = track;
                refused("lowest(" + track + ", " + bad + ")", x -> x.lowest(of, bad), -2);
            }
        }
        refusedWhere(PromiseBounds::neverBeside, "none", x -> x.lowest(0, 0), -2);
        refusedWhere(PromiseBounds::neverBeside, "none", x -> x.rows(0), 0);
        RailsGrowWider x = ofLoads(1, 2, 3);
        for (int i = 0; i <= 4; i++) {
            due("lowest(0, " + i + ")", x.lowest(0, i), i <= 2 ? i : -2);
        }
    }

    private static void craneAndIdle() {
        sentence("`int crane(boolean time)`: THE CRANE: the time (time true), the order (time false).");
        refusedWhere(x -> { }, "without CARS", x -> x.crane(true), 0);
        refusedWhere(x -> { }, "without CARS", x -> x.crane(false), 0);
        refusedWhere(x -> x.car(0, 1), "one CAR", x -> x.crane(true), 2);
        refusedWhere(x -> x.car(0, 1), "one CAR", x -> x.crane(false), 0);
        // each alone is the fastest of all 120: 0 1 2 4 3, then 4 3 2 0 1, then 4 3 2 1 0
        craneIs(new int[] {1, 4, 13, 5, 14}, new int[] {3, 15, 13, 1, 9}, 1, 43);
        craneIs(new int[] {19, 20, 5, 4, 3}, new int[] {20, 6, 18, 11, 4}, 118, 62);
        // lifted at 3, 9, 16, 30, 46; rolled at 9, 17, 34, 48, 58
        RailsGrowWider x = craneIs(new int[] {16, 14, 7, 6, 3}, new int[] {10, 14, 17, 8, 6}, 119, 58);
        sentence("`int idle()`: IDLE.");
        due("58 less 55", x.idle(), 3);
        refusedWhere(y -> { }, "without CARS", RailsGrowWider::idle, 0);
        refusedWhere(y -> y.car(0, 1), "one CAR", RailsGrowWider::idle, 1);
    }

    private static RailsGrowWider craneIs(int[] lifts, int[] rolls, int order, int time) {
        RailsGrowWider x = ofLoads(1, 2, 3, 4, 5);
        for (int car = 0; car <= 4; car++) {
            x.times(car, lifts[car], rolls[car]);
        }
        due("ORDER", x.crane(false), order);
        due("time", x.crane(true), time);
        return x;
    }

    // ---- promises 31 to 36

    private static void accountsAndTrips() {
        owe();
        balancesAndGroups();
        trip();
    }

    private static void owe() {
        sentence("`boolean owe(int a, int b, int sum)`: OWED: true. False for others (unlike ones of 0 .. 5; 1 .. 99).");
        for (int bad : beside(0, 5)) {
            refused("owe(" + bad + ", 0, 1)", x -> bit(x.owe(bad, 0, 1)), 0);
            refused("owe(0, " + bad + ", 1)", x -> bit(x.owe(0, bad, 1)), 0);
            refused("owe(" + bad + ", " + bad + ", 1)", x -> bit(x.owe(bad, bad, 1)), 0);
        }
        for (int railway = 0; railway <= 5; railway++) {
            int same = railway;
            refused("owe(" + same + ", " + same + ", 1)", x -> bit(x.owe(same, same, 1)), 0);
        }
        for (int bad : beside(1, 99)) {
            refused("owe(0, 1, " + bad + ")", x -> bit(x.owe(0, 1, bad)), 0);
        }
        refused("owe(0, 1, -1)", x -> bit(x.owe(0, 1, -1)), 0);
        for (int a = 0; a <= 5; a++) {
            for (int b = 0; b <= 5; b++) {
                if (a != b) {
                    RailsGrowWider x = new RailsGrowWider();
                    due("1", x.owe(a, b, 1), true);
                    due("99", x.owe(a, b, 99), true);
                    for (int c = 0; c <= 5; c++) {
                        due("balance(" + c + ")", x.balance(c), c == a ? -100 : c == b ? 100 : 0);
                    }
                }
            }
        }
    }

    private static void balancesAndGroups() {
        sentence("`int balance(int railway)`: A BALANCE. -100000 for others.");
        for (int bad : beside(0, 5)) {
            refused("balance(" + bad + ")", x -> x.balance(bad), -100000);
        }
        sentence("`int settled(int what)`: SETTLED: 0 by how many payments, 1 in how many groups. NONE for others.");
        for (int bad : beside(0, 1)) {
            refused("settled(" + bad + ")", x -> x.settled(bad), NONE);
        }
        refusedWhere(x -> { }, "payments", x -> x.settled(0), 0);
        refusedWhere(x -> { }, "groups", x -> x.settled(1), 6);
        sentence("`int group(int railway)`: A GROUP: RAILWAYS (bits). NONE for others.");
        for (int bad : beside(0, 5)) {
            refused("group(" + bad + ")", x -> x.group(bad), NONE);
        }
        for (int railway = 0; railway <= 5; railway++) {
            int of = railway;
            refusedWhere(x -> { }, "its own GROUP", x -> x.group(of), 1 << of);
        }
    }

    private static void trip() {
        sentence("`int trip(int from, int to, int n)`: A TRIP: how many there are (from NONE: none any more). -2 for others (days 0 .. 30, from to to; 1 .. 9), or if there are 8.");
        for (int bad : new int[] {-2, 31, LEAST, MOST}) {
            refused("trip(" + bad + ", 30, 1)", x -> x.trip(bad, 30, 1), -2);
            refused("trip(" + bad + ", " + bad + ", 1)", x -> x.trip(bad, bad, 1), -2);
        }
        for (int bad : beside(0, 30)) {
            refused("trip(0, " + bad + ", 1)", x -> x.trip(0, bad, 1), -2);
        }
        for (int bad : beside(1, 9)) {
            refused("trip(0, 0, " + bad + ")", x -> x.trip(0, 0, bad), -2);
        }
        refused("trip(1, 0, 1)", x -> x.trip(1, 0, 1), -2);
        refused("trip(30, 29, 1)", x -> x.trip(30, 29, 1), -2);
        refusedWhere(Stations::makeFull, "a ninth", x -> x.trip(0, 0, 1), -2);
        refusedWhere(x -> { }, "none any more", x -> x.trip(NONE, 0, 0), 0);
        RailsGrowWider x = new RailsGrowWider();
        int[][] taken = {{0, 0, 1}, {0, 30, 9}, {30, 30, 1}, {0, 1, 9}, {29, 30, 1}, {5, 5, 5}, {6, 7, 1}, {8, 8, 8}};
        for (int k = 0; k < 8; k++) {
            due("trip", x.trip(taken[k][0], taken[k][1], taken[k][2]), k + 1);
            due("TRIPS", x.about(4), k + 1);
        }
        due("0: 1 and 9 and 9", x.stock(false), 19);
        due("a ninth", x.trip(0, 0, 1), -2);
        due("none any more, whatever else", x.trip(NONE, MOST, LEAST), 0);
        due("TRIPS", x.about(4), 0);
        due("the first again", x.trip(0, 0, 1), 1);
        sentence("`int stock(boolean day)`: STOCK: the least (day false), the first day one fewer fails (day true; NONE: none).");
        due("1", x.stock(false), 1);
        due("day 0", x.stock(true), 0);
        refusedWhere(y -> { }, "without TRIPS", y -> y.stock(false), 0);
        refusedWhere(y -> { }, "without TRIPS", y -> y.stock(true), NONE);
    }

    // ---- promises 37 to 46

    private static void histories() {
        seen();
        lateAndLikely();
        saidAndWhose();
        heaviestAndOthers();
    }

    private static void seen() {
        sentence("`int seen(int moment, int car, int track)`: SEEN: how many there are (moment NONE: none any more). -2 for others (moments 0 .. 3), or if there are 4.");
        for (int bad : new int[] {-2, 4, LEAST, MOST}) {
            refused("seen(" + bad + ", 0, 0)", x -> x.seen(bad, 0, 0), -2);
        }
        for (int bad : beside(0, 4)) {
            refused("seen(0, " + bad + ", 0)", x -> x.seen(0, bad, 0), -2);
        }
        for (int bad : beside(0, 2)) {
            refused("seen(0, 0, " + bad + ")", x -> x.seen(0, 0, bad), -2);
        }
        refusedWhere(x -> { }, "no CAR 0", x -> x.seen(0, 0, 0), -2);
        refusedWhere(Stations::makeBusy, "no CAR 4", x -> x.seen(0, 4, 0), -2);
        refusedWhere(Stations::makeFull, "a fifth", x -> x.seen(0, 0, 0), -2);
        refusedWhere(x -> { }, "none any more", x -> x.seen(NONE, 0, 0), 0);
        RailsGrowWider x = ofLoads(1, 2, 3, 4, 5);
        int[][] taken = {{0, 0, 0}, {3, 4, 2}, {1, 4, 1}, {2, 0, 0}};
        for (int k = 0; k < 4; k++) {
            due("seen", x.seen(taken[k][0], taken[k][1], taken[k][2]), k + 1);
            due("SEEN", x.about(5), k + 1);
        }
        due("none any more, whatever else", x.seen(NONE, MOST, LEAST), 0);
        due("SEEN", x.about(5), 0);
        sentence("`int histories(boolean first)`: HISTORIES: in how many ways (first false), the lowest (first true; NONE: none).");
        refusedWhere(y -> { }, "of no MOVES", y -> y.histories(false), 1);
        refusedWhere(y -> { }, "of no MOVES", y -> y.histories(true), 0);
        refusedWhere(PromiseBounds::seenNowhere, "none", y -> y.histories(false), 0);
        refusedWhere(PromiseBounds::seenNowhere, "none", y -> y.histories(true), NONE);
    }

    private static void seenNowhere(RailsGrowWider x) {
        Stations.makeBusy(x);
        x.seen(0, 3, 0);
    }

    private static void lateAndLikely() {
        sentence("`boolean late(int car, int odds)`: LATE told: true. False for others (0 .. 10).");
        for (int bad : beside(0, 4)) {
            refused("late(" + bad + ", 1)", x -> bit(x.late(bad, 1)), 0);
        }
        for (int bad : beside(0, 10)) {
            refused("late(0, " + bad + ")", x -> bit(x.late(0, bad)), 0);
        }
        refusedWhere(x -> { }, "no CAR 0", x -> bit(x.late(0, 1)), 0);
        refusedWhere(Stations::makeBusy, "no CAR 4", x -> bit(x.late(4, 1)), 0);
        RailsGrowWider x = ofLoads(1, 2, 3, 4, 5);
        due("0", x.late(4, 0), true);
        due("10", x.late(4, 10), true);
        due("CAR 4 is", x.likely(16, false), 0);
        due("the others aren't", x.likely(15, false), 1);
        sentence("`long likely(int cars, boolean low)`: LIKELY: the upper (low false), the lower one (low true). NONE for others.");
        for (int bad : new int[] {-1, 32, 33, 64, LEAST, LEAST + 1, MOST}) {
            refused("likely(" + bad + ", false)", y -> y.likely(bad, false), NONE);
            refused("likely(" + bad + ", true)", y -> y.likely(bad, true), NONE);
        }
        refused("of none", y -> y.likely(0, false), 1);
        refused("of none", y -> y.likely(0, true), 1);
        refusedWhere(y -> { }, "no CAR 0", y -> y.likely(1, true), NONE);
        refusedWhere(Stations::makeBusy, "no CAR 4", y -> y.likely(16, true), NONE);
        refusedWhere(Stations::makeBusy, "CARS 0 and 4", y -> y.likely(17, false), NONE);
        refusedWhere(Stations::makeBusy, "CARS 0 to 3", y -> y.likely(15, true), 5);
    }

    private static void saidAndWhose() {
        sentence("`int said(int car, int changes)`: SAID: how many there are (car NONE: none any more). -2 for others (-9 .. 9), or if there are 8.");
        for (int bad : new int[] {-2, 5, LEAST, MOST}) {
            refused("said(" + bad + ", 0)", x -> x.said(bad, 0), -2);
        }
        for (int bad : beside(-9, 9)) {
            refused("said(0, " + bad + ")", x -> x.said(0, bad), -2);
        }
        refusedWhere(x -> { }, "no CAR 0", x -> x.said(0, 0), -2);
        refusedWhere(Stations::makeBusy, "no CAR 4", x -> x.said(4, 0), -2);
        refusedWhere(Stations::makeFull, "a ninth", x -> x.said(0, 0), -2);
        refusedWhere(x -> { }, "none any more", x -> x.said(NONE, 0), 0);
        RailsGrowWider x = ofLoads(1, 2, 3, 4, 5);
        int[][] taken = {{0, -9}, {4, 9}, {0, 0}, {4, -9}, {1, 1}, {2, 2}, {3, 3}, {4, 4}};
        for (int k = 0; k < 8; k++) {
            due("said", x.said(taken[k][0], taken[k][1]), k + 1);
            due("SAID", x.about(6), k + 1);
        }
        due("none any more, whatever else", x.said(NONE, MOST), 0);
        due("SAID", x.about(6), 0);
        sentence("`int whose()`: WHOSE LAW (bits).");
        refusedWhere(y -> { }, "no TEXTS", RailsGrowWider::whose, 0);
        for (int text = 0; text <= 3; text++) {
            read(x, "changes " + text + ";");
            due("nothing said", x.whose(), (2 << text) - 1);
        }
        for (int text = 0; text <= 3; text++) {
            x.said(0, text);
            due("one alone", x.whose(), 1 << text);
            x.said(NONE, 0);
        }
    }

    private static void heaviestAndOthers() {
        sentence("`int heaviest()`: HEAVIEST TRACK. NONE: none.");
        refusedWhere(x -> { }, "none", RailsGrowWider::heaviest, NONE);
        refusedWhere(x -> x.car(0, 1), "0", RailsGrowWider::heaviest, 0);
        sentence("`int worn()`: MOST WORN. NONE: none.");
        refusedWhere(x -> { }, "no CARS", RailsGrowWider::worn, NONE);
        refusedWhere(x -> x.car(0, 1), "none", RailsGrowWider::worn, NONE);
        RailsGrowWider worn = ofLoads(1);
        worn.hour(1);
        due("CAR 0", worn.worn(), 0);
        sentence("`int amiss()`: AMISS.");
        refusedWhere(x -> { }, "no CARS", RailsGrowWider::amiss, 0);
        RailsGrowWider amiss = ofKinds(3, 3, 3, 3, 3);
        amiss.forbid(3, 3, true);
        due("four pairs", amiss.amiss(), 4);
        sentence("`int ledger(int what)`: BY THE BOOK. -2 for others (0 .. 2).");
        for (int bad : beside(0, 2)) {
            refused("ledger(" + bad + ")", x -> x.ledger(bad), -2);
        }
        for (int what = 0; what <= 2; what++) {
            int of = what;
            refusedWhere(x -> { }, "an empty BOOK", x -> x.ledger(of), 0);
        }
        RailsGrowWider full = Stations.full();
        due("all lines", full.ledger(0) + full.ledger(1) + full.ledger(2), 30);
    }

    // ---- promises 47 to 49

    private static void imageAndBack() {
        sentence("`int image()`: THE IMAGE is as all is now: HOUR.");
        RailsGrowWider x = new RailsGrowWider();
        due("0", x.image(), 0);
        x.hour(5);
        due("5", x.image(), 5);
        x.hour(5);
        due("back to 5", x.back(), 5);
        due("9999", atHour(9999).image(), 9999);
        // nothing but THE IMAGE is other: twice the same is as once
        refusedWhere(PromiseBounds::imaged, "image", RailsGrowWider::image, 5);
        sentence("`int back()`: BACK to THE IMAGE (it stays): HOUR.");
        refusedWhere(PromiseBounds::imaged, "back", RailsGrowWider::back, 5);
        due("the first IMAGE", Stations.full().back(), 0);
        RailsGrowWider y = Stations.busy();
        for (int k = 0; k < 3; k++) {
            y.hour(10);
            y.car(0, 1);
            due("it stays", y.back(), 3);
            due("HOUR", y.is(0), 3);
            due("CARS", y.about(0), 3);
            due("STEPS", y.about(3), 3);
        }
        due("an HOUR is taken back", y.undo(), 2);
        due("and is so again", y.back(), 3);
        due("STEPS", y.about(3), 3);
        about();
    }

    private static void imaged(RailsGrowWider x) {
        Stations.makeBusy(x);
        x.image();
        due("HOUR", x.is(0), 5);
    }

    private static void about() {
        sentence("`int about(int what)`: 0 CARS, 1 TEXTS, 2 THE TEXT (NONE), 3 STEPS that can be taken back, 4 TRIPS, 5 SEEN, 6 SAID, 7 bytes of the tape. -2 for others.");
        for (int bad : beside(0, 7)) {
            refused("about(" + bad + ")", x -> x.about(bad), -2);
        }
        Stations.areFull(Stations.full());
        int[] busy = {4, 2, 0, 10, 1, 1, 1, 19};
        for (int what = 0; what <= 7; what++) {
            due("busy: about(" + what + ")", Stations.busy().about(what), busy[what]);
        }
    }

    // ---- what is asked changes nothing

    private static void questionsChangeNothing() {
        sentence("==== III. All that follows changes nothing but what is told.");
        asked("fault", (x, k) -> x.fault(k));
        asked("of", (x, k) -> x.of(k / 3, k % 7));
        asked("track", (x, k) -> x.track(k % 4, k / 3 - 1));
        asked("law", (x, k) -> x.law(k / 3 % 4, k % 3));
        asked("is", (x, k) -> x.is(k));
        asked("book", (x, k) -> x.book(k - 1, k % 5));
        asked("foretold", (x, k) -> x.foretold(3 * k, k % 4));
        asked("shunts", (x, k) -> x.shunts(k - 1));
        asked("reach", (x, k) -> x.reach());
        asked("order", (x, k) -> x.order(7 * k, k % 6));
        asked("rows", (x, k) -> x.rows(k));
        asked("lowest", (x, k) -> x.lowest(k % 4, k / 4));
        asked("crane", (x, k) -> x.crane(k % 2 == 0));
        asked("idle", (x, k) -> x.idle());
        asked("balance", (x, k) -> x.balance(k));
        asked("settled", (x, k) -> x.settled(k));
        asked("group", (x, k) -> x.group(k));
        asked("stock", (x, k) -> x.stock(k % 2 == 0));
        asked("histories", (x, k) -> x.histories(k % 2 == 0));
        asked("likely", (x, k) -> x.likely(2 * k + 1, k % 2 == 0));
        asked("whose", (x, k) -> x.whose());
        asked("heaviest", (x, k) -> x.heaviest());
        asked("worn", (x, k) -> x.worn());
        asked("amiss", (x, k) -> x.amiss());
        asked("ledger", (x, k) -> x.ledger(k));
        asked("about", (x, k) -> x.about(k));
    }

    /** A question, of whichever k. */
    private interface Question {
        long ask(RailsGrowWider x, int k);
    }

    private static void asked(String call, Question question) {
        // all that 21 k ask, twice: the second time it is answered alike
        refused(call, x -> {
            long[] first = new long[21];
            for (int k = 0; k < 42; k++) {
                long answer = question.ask(x, k % 21);
                if (k >= 21) {
                    due(call + " again", answer, first[k - 21]);
                } else {
                    first[k] = answer;
                }
            }
            return 0;
        }, 0);
    }
}
