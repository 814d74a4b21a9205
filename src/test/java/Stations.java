/** Stations with something, or with all that there can be, in them. */
final class Stations extends Checks {
    private Stations() {
    }

    /** Something of everything; an IMAGE that is unlike what is now; a tape and a FAULT. */
    static RailsGrowWider busy() {
        RailsGrowWider x = new RailsGrowWider();
        makeBusy(x);
        return x;
    }

    static void makeBusy(RailsGrowWider x) {
        x.car(0, 3);
        x.car(1, 4);
        x.car(2, 5);
        x.hour(3);
        x.image();
        x.car(3, 6);
        x.forbid(0, 3, true);
        x.times(0, 2, 3);
        x.times(2, 9, 1);
        read(x, "moves 5-many;changes load;lend 1 of 0;");
        read(x, "changes 4-load;hour 1;");
        x.by(0);
        x.move(0, 1);
        x.lend(1, 2);
        x.change();
        x.hour(2);
        x.move(1, 2);
        x.move(0, 1);
        x.want(9);
        x.owe(0, 1, 9);
        x.owe(3, 5, 7);
        x.trip(1, 2, 3);
        x.seen(1, 0, 0);
        x.late(1, 4);
        x.said(0, 1);
        read(x, "hour 61;");
        write(x, "lend 3 of 1;hour 7;");
    }

    static void tellMore(RailsGrowWider x) {
        x.car(3, 9);
        x.forbid(0, 3, false);
        x.forbid(1, 2, true);
        x.times(0, 20, 20);
        x.undo();
        x.undo();
        x.hour(3);
        x.lend(0, 2);
        x.want(100);
        x.owe(3, 4, 5);
        x.trip(NONE, 0, 0);
        x.trip(5, 6, 7);
        x.seen(NONE, 0, 0);
        x.seen(0, 1, 1);
        x.late(1, 9);
        x.said(NONE, 0);
        x.said(1, 9);
        x.by(1);
        x.years(123, 40);
    }

    /** All that has a bound is at it: CARS, TEXTS, STEPS, BOOK, HOUR, TRIPS, SEEN, SAID, the tape, WHEELS. */
    static RailsGrowWider full() {
        RailsGrowWider x = new RailsGrowWider();
        makeFull(x);
        return x;
    }

    static void makeFull(RailsGrowWider x) {
        for (int k = 0; k < 5; k++) {
            x.car(k % 4, 9 - k);
            x.times(k, 20 - k, 10 + 2 * k);
            x.late(k, 2 * k);
        }
        x.forbid(0, 1, true);
        passAllHours(x);
        read(x, "moves 99;changes -99;");
        read(x, "moves load;changes 9;");
        read(x, "moves 1;changes 1;");
        x.by(3);
        x.move(0, 1);
        haveWheels(x, 0, 9);
        haveWheels(x, 1, 0);
        for (int k = 0; k < 9; k++) {
            x.years(17 * k, 40);
        }
        haveWheels(x, 0, 9);
        haveWheels(x, 1, 0);
        for (int k = 0; k < 8; k++) {
            x.trip(k, 30 - k, 9);
            x.said(k % 5, 9);
        }
        for (int k = 0; k < 4; k++) {
            x.seen(k, k, 0);
        }
        x.want(119);
        write(x, padded("hour 60;", 300));
    }

    /** LOADS 1 .. 5 of KIND 0: CAR 4 alone on TRACK 0, on the pit 3 2 1 0, the last one uppermost. */
    static RailsGrowWider turned() {
        RailsGrowWider x = ofLoads(1, 2, 3, 4, 5);
        bringToWide(x);
        for (int k = 0; k < 4; k++) {
            x.move(0, 1);
        }
        x.lend(0, 1);
        x.move(2, 1);
        x.change();
        x.move(1, 0);
        due("CAR 4 on TRACK 0", x.track(0, 0), 4);
        due("CAR 0 on top of the pit", x.track(1, 3), 0);
        return x;
    }

    static void areFull(RailsGrowWider x) {
        int[] about = {5, 4, 3, 30, 8, 4, 8, 300};
        for (int what = 0; what <= 7; what++) {
            due("full: about(" + what + ")", x.about(what), about[what]);
        }
        due("full: BOOK", x.book(NONE, 0), 30);
        due("full: HOUR", x.is(0), 9999);
        due("full: narrow", x.is(2), 9);
        due("empty: wide", x.is(3), 0);
    }

    /** What BACK leaves as it is: the tape and the latest FAULT, as in full(). */
    static void sameTape(RailsGrowWider full, RailsGrowWider fresh) {
        read(fresh, "");
        fresh.back();
        write(fresh, padded("hour 60;", 300));
        due("the same tape", full.about(7), fresh.about(7));
    }
}
