/** Part I of the document: CARS, TRACKS, WHEELS, KINDS, HOUR, X, BOOK, what is done, STEPS. */
final class TermsBounds extends Checks {
    private TermsBounds() {
    }

    static void all() {
        carsAreFive();
        kindsOfCars();
        loads();
        tracks();
        aNewCarComesUppermost();
        feetAtFirst();
        wornAtMostNine();
        wheels();
        kindsThatMayNot();
        hours();
        theFirstX();
        theLatestThirtyLines();
        moved();
        changed();
        anHour();
        steps();
    }

    private static void carsAreFive() {
        sentence("CARS 0 .. 4 (told one by one)");
        RailsGrowWider x = new RailsGrowWider();
        due("no CAR 0 yet", x.of(0, 1), NONE);
        for (int car = 0; car <= 4; car++) {
            due("car", x.car(0, 1 + car), car);
            due("its LOAD", x.of(car, 1), 1 + car);
            due("the next one isn't told", x.of(car + 1, 1), NONE);
            due("CARS", x.about(0), car + 1);
        }
        due("a sixth one", x.car(0, 9), NONE);
        due("CARS", x.about(0), 5);
        due("of(5, 1)", x.of(5, 1), NONE);
        due("of(-1, 1)", x.of(-1, 1), NONE);
    }

    private static void kindsOfCars() {
        sentence("KIND 0 flat, 1 tank, 2 sleeper, 3 mail");
        RailsGrowWider x = new RailsGrowWider();
        due("car(-1, 1)", x.car(-1, 1), NONE);
        due("car(4, 1)", x.car(4, 1), NONE);
        for (int kind = 0; kind <= 3; kind++) {
            due("car", x.car(kind, 1), kind);
            due("its KIND", x.of(kind, 0), kind);
        }
        due("car(4, 1)", x.car(4, 1), NONE);
        due("CARS", x.about(0), 4);
    }

    private static void loads() {
        sentence("LOAD 1 .. 9;");
        for (int load = 1; load <= 9; load++) {
            RailsGrowWider x = new RailsGrowWider();
            due("car", x.car(0, load), 0);
            due("its LOAD", x.of(0, 1), load);
        }
        RailsGrowWider x = new RailsGrowWider();
        due("car(0, 0)", x.car(0, 0), NONE);
        due("car(0, 10)", x.car(0, 10), NONE);
        due("car(0, -1)", x.car(0, -1), NONE);
        due("CARS", x.about(0), 0);
    }

    private static void tracks() {
        sentence("on TRACKS 0 (narrow), 1 (the pit), 2 (wide), one upon the other (the uppermost is at the open end;");
        RailsGrowWider x = ofLoads(1, 2, 3, 4, 5);
        due("all on 0", x.track(0, NONE), 5);
        due("none on 1", x.track(1, NONE), 0);
        due("none on 2", x.track(2, NONE), 0);
        due("TRACK -1", x.track(-1, NONE), -2);
        due("TRACK 3", x.track(3, NONE), -2);
        for (int car = 4; car >= 0; car--) {
            due("the uppermost one goes", x.move(0, 1), car);
            due("it is uppermost there", x.track(1, 4 - car), car);
        }
        due("all on 1", x.track(1, NONE), 5);
        due("none on 0", x.track(0, NONE), 0);
        due("lowest on 1", x.track(1, 0), 4);
        due("of(4, 3)", x.of(4, 3), 0);
        due("of(0, 3)", x.of(0, 3), 4);
        RailsGrowWider y = ofLoads(1, 2, 3, 4, 5);
        for (int car = 4; car >= 0; car--) {
            bringToWide(y);
            due("uppermost on 2", y.track(2, 4 - car), car);
        }
        due("all on 2", y.track(2, NONE), 5);
        due("no sixth place", y.track(2, 5), -2);
    }

    private static void aNewCarComesUppermost() {
        sentence("a new CAR comes uppermost on 0)");
        RailsGrowWider x = new RailsGrowWider();
        x.car(0, 1);
        due("lowest on the empty TRACK", x.of(0, 3), 0);
        x.car(0, 2);
        due("above the other one", x.of(1, 3), 1);
        x.move(0, 1);
        x.move(0, 1);
        x.car(0, 3);
        due("on 0, though the others are on 1", x.of(2, 2), 0);
        due("lowest", x.of(2, 3), 0);
        due("nothing on 1 is other", x.track(1, NONE), 2);
        RailsGrowWider y = ofLoads(1, 2, 3, 4);
        y.forbid(0, 0, true);
        due("the fifth, beside one that it may not", y.car(0, 5), 4);
        due("the highest place", y.of(4, 3), 4);
        due("track(0, 4)", y.track(0, 4), 4);
    }

    private static void feetAtFirst() {
        sentence("feet narrow (at first) or wide");
        RailsGrowWider x = ofLoads(1, 2);
        due("narrow", x.of(0, 4), 0);
        due("narrow", x.of(1, 4), 0);
        due("no bits", x.is(4), 0);
        x.move(0, 1);
        x.change();
        due("wide", x.of(1, 4), 1);
        due("the other one narrow", x.of(0, 4), 0);
        due("bits", x.is(4), 2);
        x.car(0, 3);
        due("a new one narrow", x.of(2, 4), 0);
        due("bits", x.is(4), 2);
    }

    private static void wornAtMostNine() {
        sentence("how WORN 0 .. 9 (at first 0)");
        RailsGrowWider x = ofLoads(1);
        due("at first", x.of(0, 5), 0);
        for (int k = 1; k <= 12; k++) {
            x.hour(1);
            due("behind " + k, x.of(0, 5), Math.min(9, k));
        }
        x.car(0, 2);
        due("a new one", x.of(1, 5), 0);
        due("CAR 1 isn't told of TRACK 0's", x.of(0, 5), 9);
    }

    private static void wheels() {
        sentence("WHEELS narrow, wide 0 .. 9 each (at first 1 each)");
        RailsGrowWider x = new RailsGrowWider();
        due("narrow", x.is(2), 1);
        due("wide", x.is(3), 1);
        for (int wide = 0; wide <= 1; wide++) {
            due("to 10", x.lend(wide, 9), false);
            due("to 9", x.lend(wide, 8), true);
            due("9", x.is(2 + wide), 9);
            due("to 10", x.lend(wide, 1), false);
            due("to 0", x.lend(wide, -9), true);
            due("0", x.is(2 + wide), 0);
            due("to -1", x.lend(wide, -1), false);
            due("0", x.is(2 + wide), 0);
            due("the others are as they were", x.is(3 - wide), wide == 0 ? 1 : 0);
        }
    }

    private static void kindsThatMayNot() {
        sentence("KINDS (unlike or alike ones) that may not stand beside one another (told; at first none)");
        for (int a = 0; a <= 3; a++) {
            for (int b = 0; b <= 3; b++) {
                due("at first", ofKinds(a, b).amiss(), 0);
                onlyThisPair(a, b);
            }
        }
    }

    /** KINDS a, b are told; of all pairs they alone may not. */
    private static void onlyThisPair(int a, int b) {
        for (int c = 0; c <= 3; c++) {
            for (int d = 0; d <= 3; d++) {
                RailsGrowWider x = ofKinds(c, d);
                x.forbid(a, b, true);
                boolean so = c == a && d == b || c == b && d == a;
                due("forbid " + a + " " + b + ": " + c + " on " + d, x.amiss(), so ? 1 : 0);
                x.forbid(b, a, false);
                due("and may again", x.amiss(), 0);
            }
        }
    }

    private static void hours() {
        sentence("HOUR 0 .. 9999 (at first 0)");
        due("at first", new RailsGrowWider().is(0), 0);
        RailsGrowWider x = atHour(9998);
        due("the last one", x.hour(1) >= 0, true);
        due("9999", x.is(0), 9999);
        due("no more", x.hour(1), NONE);
        due("9999", x.is(0), 9999);
    }

    private static void theFirstX() {
        sentence("X: at first 353.");
        RailsGrowWider x = new RailsGrowWider();
        due("X", x.is(1), 353);
        x.car(0, 1);
        due("telling draws nothing", x.is(1), 353);
    }

    private static void theLatestThirtyLines() {
        sentence("BOOK (the latest 30).");
        RailsGrowWider x = ofLoads(1, 2);
        due("empty", x.book(NONE, 0), 0);
        due("no line 0", x.book(0, 0), -2);
        x.move(0, 1);
        due("one line", x.book(NONE, 0), 1);
        for (int k = 2; k <= 30; k++) {
            x.move(k % 2 == 0 ? 0 : 1, k % 2 == 0 ? 1 : 0);
            due("lines", x.book(NONE, 0), k);
        }
        due("the eldest is of CAR 1", x.book(0, 1), 1);
        due("the next is of CAR 0", x.book(1, 1), 0);
        due("the 30th", x.book(29, 3), 1);
        due("no line 30", x.book(30, 0), -2);
        x.change();
        due("still 30", x.book(NONE, 0), 30);
        due("the eldest went", x.book(0, 1), 0);
        due("the latest is last", x.book(29, 2), 1);
        due("the one ahead of it", x.book(28, 2), 0);
        due("no line 30", x.book(30, 0), -2);
        for (int k = 0; k < 31; k++) {
            x.move(k % 2 == 0 ? 1 : 2, k % 2 == 0 ? 2 : 1);
        }
        due("all 30 went by", x.ledger(1), 0);
        due("all 30 are moves", x.ledger(0), 30);
        due("the eldest", x.book(0, 3), 1);
        due("the latest", x.book(29, 3), 2);
    }

    // ---- MOVED

    private static void moved() {
        movedFromTop();
        movedBesideOthers();
        movedOnFeet();
        movedByLaw();
    }

    private static void movedFromTop() {
        sentence("MOVED: the uppermost CAR of a TRACK comes uppermost on another one,");
        RailsGrowWider x = ofLoads(1, 2);
        for (int track = 0; track <= 2; track++) {
            due("from a TRACK to itself", x.move(track, track), NONE);
            due("from empty ones", x.move(1, track), NONE);
            due("from empty ones", x.move(2, track), NONE);
        }
        due("the uppermost", x.move(0, 1), 1);
        due("from a TRACK to itself", x.move(1, 1), NONE);
        due("the one that was below it", x.move(0, 1), 0);
        due("uppermost", x.track(1, 1), 0);
        due("empty now", x.move(0, 1), NONE);
        due("written down and STEPS: two", x.book(NONE, 0) + 10 * x.about(3), 22);
    }

    private static void movedBesideOthers() {
        sentence("if its KIND may stand beside that of the CAR that was uppermost there (or there is none),");
        RailsGrowWider x = ofKinds(1, 2, 3);
        x.forbid(1, 2, true);
        due("3, there is none", x.move(0, 1), 2);
        due("2 upon 3", x.move(0, 1), 1);
        due("1 upon 2", x.move(0, 1), NONE);
        due("2 upon 1, though it came from there", x.move(1, 0), NONE);
        due("it stays", x.of(0, 2), 0);
        x.forbid(1, 2, false);
        x.forbid(1, 3, true);
        due("1 upon 2, though 3 is below", x.move(0, 1), 0);
        x.forbid(1, 2, true);
        due("off 2, though it stood amiss", x.move(1, 0), 0);
        RailsGrowWider y = ofKinds(3, 3);
        y.forbid(3, 3, true);
        due("the first one", y.move(0, 1), 1);
        due("alike ones", y.move(0, 1), NONE);
    }

    private static void movedOnFeet() {
        sentence("its feet are narrow for TRACK 0, wide for TRACK 2 (any for 1),");
        RailsGrowWider x = ofLoads(1);
        due("narrow from 0 to 2", x.move(0, 2), NONE);
        due("narrow from 0 to 1", x.move(0, 1), 0);
        due("narrow from 1 to 2", x.move(1, 2), NONE);
        due("narrow from 1 to 0", x.move(1, 0), 0);
        x.move(0, 1);
        x.change();
        due("wide from 1 to 0", x.move(1, 0), NONE);
        due("wide from 1 to 2", x.move(1, 2), 0);
        due("wide from 2 to 0", x.move(2, 0), NONE);
        due("wide from 2 to 1", x.move(2, 1), 0);
    }

    private static void movedByLaw() {
        sentence("and moves says more than 0.");
        for (int says : new int[] {-99, -1, 0, 1, 2, 99}) {
            RailsGrowWider x = ofLoads(1);
            readAndRule(x, "moves " + says + ";changes 0;");
            due("moves says " + says, x.move(0, 1), says > 0 ? 0 : NONE);
            due("its TRACK", x.of(0, 2), says > 0 ? 1 : 0);
            due("written down", x.book(NONE, 0), says > 0 ? 1 : 0);
            due("STEPS", x.about(3), says > 0 ? 1 : 0);
        }
    }

    // ---- CHANGED

    private static void changed() {
        changedIfItCanBe();
        wheelsChanged();
        wornNoMore();
        bothWrittenDown();
        lent();
    }

    private static void changedIfItCanBe() {
        sentence("CHANGED: the uppermost CAR of TRACK 1 has feet of the other width, if there are WHEELS of that and changes says more than 0:");
        RailsGrowWider x = ofLoads(1, 2, 3);
        due("no CAR there", x.change(), NONE);
        x.move(0, 1);
        x.move(0, 1);
        haveWheels(x, 1, 0);
        due("no wide ones", x.change(), NONE);
        haveWheels(x, 1, 1);
        due("the last wide one", x.change(), 1);
        due("the uppermost alone", x.is(4), 2);
        haveWheels(x, 0, 0);
        due("no narrow ones", x.change(), NONE);
        due("wide still", x.of(1, 4), 1);
        haveWheels(x, 0, 1);
        due("the last narrow one", x.change(), 1);
        due("narrow", x.of(1, 4), 0);
        for (int says : new int[] {-99, -1, 0, 1, 2, 99}) {
            RailsGrowWider y = ofLoads(1);
            y.move(0, 1);
            readAndRule(y, "moves 0;changes " + says + ";");
            due("changes says " + says, y.change(), says > 0 ? 0 : NONE);
            due("its feet", y.of(0, 4), says > 0 ? 1 : 0);
            due("written down", y.book(NONE, 0), says > 0 ? 2 : 1);
            due("STEPS", y.about(3), says > 0 ? 2 : 1);
        }
    }

    private static void wheelsChanged() {
        sentence("these are one less, those it had one more (9 at most);");
        for (int had = 0; had <= 9; had++) {
            RailsGrowWider x = ofLoads(1);
            x.move(0, 1);
            haveWheels(x, 0, had);
            haveWheels(x, 1, 9);
            due("to wide", x.change(), 0);
            due("one less", x.is(3), 8);
            due("one more of " + had, x.is(2), Math.min(9, had + 1));
            haveWheels(x, 0, 9);
            haveWheels(x, 1, had);
            due("to narrow", x.change(), 0);
            due("one less", x.is(2), 8);
            due("one more of " + had, x.is(3), Math.min(9, had + 1));
        }
    }

    private static void wornNoMore() {
        sentence("it isn't WORN any more (0).");
        RailsGrowWider x = ofLoads(1, 2);
        x.move(0, 1);
        x.hour(60);
        due("WORN", x.of(1, 5), 9);
        due("WORN", x.of(0, 5), 9);
        haveWheels(x, 1, 1);
        due("change", x.change(), 1);
        due("no more", x.of(1, 5), 0);
        due("the other one still", x.of(0, 5), 9);
        haveWheels(x, 0, 1);
        due("change", x.change(), 1);
        due("not below 0", x.of(1, 5), 0);
    }

    private static void bothWrittenDown() {
        sentence("Both are written down.");
        RailsGrowWider x = ofLoads(1);
        x.move(0, 1);
        due("moved", x.book(NONE, 0), 1);
        x.change();
        due("changed", x.book(NONE, 0), 2);
        x.move(1, 0);
        due("what can't be is not", x.book(NONE, 0), 2);
        haveWheels(x, 0, 0);
        x.change();
        due("what can't be is not", x.book(NONE, 0), 2);
        int[] lines = {0, 0, 0, 1, 0, 0, 1, 1};
        for (int k = 0; k < 8; k++) {
            due("line " + k / 4, x.book(k / 4, k % 4), lines[k]);
        }
    }

    private static void lent() {
        sentence("LENT: WHEELS come or go.");
        RailsGrowWider x = new RailsGrowWider();
        due("one comes", x.lend(0, 1), true);
        due("narrow", x.is(2), 2);
        due("one goes", x.lend(0, -1), true);
        due("narrow", x.is(2), 1);
        due("not written down", x.book(NONE, 0), 0);
    }

    // ---- AN HOUR

    private static void anHour() {
        theDraw();
        wheelsCome();
        wheelsBreak();
        nothingByFourAndMore();
        oneIsMoreWorn();
        hourIsOneMore();
    }

    private static void theDraw() {
        sentence("AN HOUR: a draw by 10 (X mod 10, X being (X * 607 + 479) mod 30851 then):");
        RailsGrowWider x = new RailsGrowWider();
        int drawn = 353;
        for (int k = 0; k < 60; k++) {
            x.hour(1);
            drawn = drawnAnew(drawn);
            due("X behind " + (k + 1), x.is(1), drawn);
        }
        // the least X, the greatest one and those around them
        for (int wanted : new int[] {0, 1, 30849, 30850}) {
            comesTo(wanted);
        }
        due("0 comes to 479", drawnAnew(0), 479);
        due("30850 comes to 479 less 607", drawnAnew(30850), 30851 + 479 - 607);
    }

    /** Looks for a SEED whose first year leaves an X that comes to the wanted one in few HOURS. */
    private static void comesTo(int wanted) {
        for (int seed = 0; seed <= 9999; seed++) {
            int first = seed * 2 + 353;
            int drawn = drawnAnew(first);
            for (int hours = 1; first % 6 == 1 && hours <= 60; hours++) {
                drawn = drawnAnew(drawn);
                if (drawn == wanted) {
                    RailsGrowWider x = new RailsGrowWider();
                    x.years(seed, 1);
                    x.hour(hours);
                    due("X", x.is(1), wanted);
                    x.hour(1);
                    due("X behind it", x.is(1), drawnAnew(wanted));
                    return;
                }
            }
        }
        complain("no SEED comes to " + wanted);
    }

    private static void wheelsCome() {
        sentence("0, 1 one more of narrow, wide WHEELS (9 at most);");
        for (int wide = 0; wide <= 1; wide++) {
            int digit = wide;
            for (int had = 0; had <= 9; had++) {
                RailsGrowWider x = new RailsGrowWider();
                haveWheels(x, wide, had);
                drawUntil(x, drawn -> drawn % 10 == digit);
                due("none breaks", x.hour(1), 0);
                due("one more of " + had, x.is(2 + wide), Math.min(9, had + 1));
                due("the others are as they were", x.is(3 - wide), 1);
                due("not written down", x.book(NONE, 0), 0);
            }
        }
    }

    private static void wheelsBreak() {
        sentence("2, 3 one of narrow, wide ones breaks, if there is one: written down (CAR NONE).");
        for (int wide = 0; wide <= 1; wide++) {
            int digit = 2 + wide;
            for (int had = 0; had <= 9; had++) {
                RailsGrowWider x = new RailsGrowWider();
                haveWheels(x, wide, had);
                drawUntil(x, drawn -> drawn % 10 == digit);
                due("breaks", x.hour(1), had == 0 ? 0 : 1);
                due("one less of " + had, x.is(2 + wide), Math.max(0, had - 1));
                due("the others are as they were", x.is(3 - wide), 1);
                due("written down", x.book(NONE, 0), had == 0 ? 0 : 1);
                int[] line = {0, NONE, 2, wide};
                for (int what = 0; what <= 3; what++) {
                    due("line", x.book(0, what), had == 0 ? -2 : line[what]);
                }
            }
        }
    }

    private static void nothingByFourAndMore() {
        for (int digit = 4; digit <= 9; digit++) {
            int wanted = digit;
            RailsGrowWider x = new RailsGrowWider();
            drawUntil(x, drawn -> drawn % 10 == wanted);
            due("none breaks by " + digit, x.hour(1), 0);
            due("narrow", x.is(2), 1);
            due("wide", x.is(3), 1);
            due("nothing written down", x.book(NONE, 0), 0);
        }
    }

    private static void oneIsMoreWorn() {
        sentence("Then, are there CARS, a draw by how many: that one is 1 more WORN (9 at most).");
        RailsGrowWider none = new RailsGrowWider();
        none.hour(1);
        due("without CARS one draw", none.is(1), drawnAnew(353));
        for (int cars = 1; cars <= 5; cars++) {
            for (int car = 0; car < cars; car++) {
                wearsOut(cars, car);
            }
        }
    }

    private static void wearsOut(int cars, int car) {
        RailsGrowWider x = ofLoads(1, 2, 3, 4, 5);
        x.back();
        for (int k = 0; k < cars; k++) {
            x.car(0, 1);
        }
        for (int k = 1; k <= 10; k++) {
            drawUntil(x, drawn -> drawn % 10 == 9 && drawnAnew(drawn) % cars == car);
            int drawn = x.is(1);
            x.hour(1);
            due("two draws", x.is(1), drawnAnew(drawnAnew(drawn)));
            due("WORN", x.of(car, 5), Math.min(9, k));
        }
        for (int other = 0; other < cars; other++) {
            due("CAR " + other + " of " + cars, x.of(other, 5), other == car ? 9 : 0);
        }
    }

    private static void hourIsOneMore() {
        sentence("HOUR is one more (at 9999 none can pass).");
        RailsGrowWider x = new RailsGrowWider();
        x.hour(1);
        due("1", x.is(0), 1);
        RailsGrowWider y = atHour(9999);
        int drawn = y.is(1);
        int steps = y.about(3);
        due("hour(1)", y.hour(1), NONE);
        due("HOUR", y.is(0), 9999);
        due("X", y.is(1), drawn);
        due("STEPS", y.about(3), steps);
    }

    // ---- STEPS

    private static void steps() {
        whatIsAStep();
        theLatestThirtySteps();
        asAheadOfIt();
        theBookAsAheadOfIt();
        carsToldSince();
    }

    private static void whatIsAStep() {
        sentence("STEPS: MOVED, CHANGED, LENT, an HOUR (each), YEARS (see V):");
        RailsGrowWider x = ofLoads(1, 2);
        due("told CARS are none", x.about(3), 0);
        x.move(0, 1);
        due("MOVED", x.about(3), 1);
        x.change();
        due("CHANGED", x.about(3), 2);
        x.lend(0, 5);
        due("LENT", x.about(3), 3);
        x.lend(0, -1);
        due("LENT", x.about(3), 4);
        x.hour(1);
        due("an HOUR", x.about(3), 5);
        x.hour(3);
        due("HOURS", x.about(3), 8);
        x.years(0, 40);
        due("YEARS", x.about(3), 9);
        x.years(1, 1);
        due("YEARS in which nothing is done", x.about(3), 10);
        x.forbid(0, 1, true);
        x.times(0, 2, 2);
        x.want(3);
        x.owe(0, 1, 2);
        x.trip(0, 1, 2);
        x.seen(0, 0, 0);
        x.late(0, 5);
        x.said(0, 0);
        read(x, "moves 0;");
        x.by(0);
        x.image();
        due("what is told is none", x.about(3), 10);
        x.move(1, 0);
        x.lend(0, 9);
        x.hour(61);
        due("what can't be is none", x.about(3), 10);
    }

    private static void theLatestThirtySteps() {
        sentence("the latest 30 can be taken back, the latest first");
        RailsGrowWider x = new RailsGrowWider();
        due("none yet", x.undo(), NONE);
        x.hour(29);
        due("29", x.about(3), 29);
        x.hour(1);
        due("30", x.about(3), 30);
        x.hour(1);
        due("30 still", x.about(3), 30);
        for (int k = 29; k >= 0; k--) {
            due("undo", x.undo(), k);
            due("HOUR", x.is(0), k + 1);
        }
        due("the 31st is none", x.undo(), NONE);
        due("HOUR", x.is(0), 1);
        // round and round again
        for (int round = 0; round < 4; round++) {
            x.hour(17);
            due("undo", x.undo() + 1, Math.min(30, round == 0 ? 17 : round == 1 ? 23 : round == 2 ? 29 : 30));
            for (int k = 0; k < 10; k++) {
                x.undo();
            }
            due("HOUR", x.is(0), 1 + 6 * (round + 1));
        }
        for (int k = x.about(3); k > 0; k--) {
            x.undo();
        }
        due("none any more", x.undo(), NONE);
        due("HOUR: 19 of 25 were taken back", x.is(0), 25 - 19);
    }

    private static void asAheadOfIt() {
        sentence("(where CARS are, feet, WORN, WHEELS, HOUR, X, BOOK are as ahead of it;");
        for (int ahead = 0; ahead < 12; ahead++) {
            RailsGrowWider x = behindSteps(12);
            for (int k = 11; k >= ahead; k--) {
                due("undo", x.undo(), k);
            }
            Whole.alike("as ahead of STEP " + ahead, Whole.yardOf(x), Whole.yardOf(behindSteps(ahead)));
        }
    }

    private static RailsGrowWider behindSteps(int n) {
        RailsGrowWider x = ofLoads(1, 2, 3, 4, 5);
        for (int k = 0; k < n; k++) {
            switch (k % 6) {
                case 0: x.move(0, 1); break;
                case 1: x.lend(1, 1); break;
                case 2: x.change(); break;
                case 3: x.hour(1); break;
                case 4: x.years(400 + k, 40); break;
                default: x.lend(0, x.is(2) > 0 ? -1 : 1); break;
            }
            due("a STEP", x.about(3), k + 1);
        }
        return x;
    }

    private static void theBookAsAheadOfIt() {
        RailsGrowWider x = ofLoads(1, 2);
        x.move(0, 1);
        for (int k = 0; k < 29; k++) {
            x.move(k % 2 == 0 ? 0 : 1, k % 2 == 0 ? 1 : 0);
        }
        due("30 lines", x.book(NONE, 0), 30);
        due("the eldest of CAR 1", x.book(0, 1), 1);
        x.change();
        due("the eldest of CAR 0", x.book(0, 1), 0);
        due("undo", x.undo(), 29);
        due("30 lines", x.book(NONE, 0), 30);
        due("the eldest is there again", x.book(0, 1), 1);
        due("the latest", x.book(29, 2), 0);
    }

    private static void carsToldSince() {
        sentence("CARS told since are uppermost on 0, as told, in their order).");
        RailsGrowWider x = ofLoads(1);
        x.lend(1, 8);
        x.car(1, 7);
        x.car(2, 8);
        x.times(1, 5, 6);
        x.late(2, 5);
        // 2, then 1 to the pit and to 2, worn on the way: the order turns round
        bringToWide(x);
        x.move(0, 1);
        x.change();
        x.hour(9);
        due("WORN", x.of(1, 5) + x.of(2, 5) > 0, true);
        x.car(3, 9);
        for (int k = x.about(3); k > 0; k--) {
            x.undo();
        }
        due("CARS", x.about(0), 4);
        for (int car = 0; car < 4; car++) {
            int[] as = {car, new int[] {1, 7, 8, 9}[car], 0, car, 0, 0};
            for (int what = 0; what <= 5; what++) {
                due("of(" + car + ", " + what + ")", x.of(car, what), as[what]);
            }
        }
        due("no wide feet", x.is(4), 0);
        due("what was told of it stays", x.likely(4, true), 2);
        // told behind the STEP, with the CARS of the STEP elsewhere
        RailsGrowWider y = ofLoads(1, 2);
        y.move(0, 1);
        y.move(0, 1);
        y.car(0, 3);
        due("undo", y.undo(), 1);
        due("CAR 0 is there again", y.of(0, 3), 0);
        due("CAR 2 upon it", y.of(2, 3), 1);
        due("CAR 1 on the pit", y.of(1, 2), 1);
    }
}
