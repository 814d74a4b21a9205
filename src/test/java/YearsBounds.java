import java.util.function.IntPredicate;

/** Part V of the document: YEARS, and THE IMAGE. */
final class YearsBounds extends Checks {
    private YearsBounds() {
    }

    static void all() {
        seeds();
        nTimes();
        movedInYears();
        changedInYears();
        wheelsInYears();
        hoursInYears();
        oneStep();
        image();
        back();
        none();
    }

    /** The lowest SEED whose first and second x are so; the first one moves from TRACK 2 and so does nothing there. */
    private static int seedOfSecond(IntPredicate second) {
        for (int seed = 0; seed <= 9999; seed++) {
            int first = seed * 2 + 353;
            if (first % 6 == 1 && first / 6 % 3 == 2 && first % 4 <= 1 && second.test(drawnAnew(first))) {
                return seed;
            }
        }
        complain("no such SEED");
        return 0;
    }

    private static void seeds() {
        sentence("==== V. YEARS by a SEED: X is SEED (0 .. 9999) * 2 + 353;");
        RailsGrowWider x = new RailsGrowWider();
        due("-1", x.years(-1, 1), NONE);
        due("10000", x.years(10000, 1), NONE);
        due("X", x.is(1), 353);
        // 353 and 20351 (mod 6 both 5): an HOUR each, so that X is drawn twice
        due("0", x.years(0, 1), 1);
        due("X", x.is(1), drawnAnew(drawnAnew(353)));
        due("9999", x.years(9999, 1), 2);
        due("X", x.is(1), drawnAnew(drawnAnew(20351)));
        for (int seed = 1; seed < 9999; seed += 404) {
            RailsGrowWider y = new RailsGrowWider();
            y.hour(3);
            y.years(seed, 1);
            int drawn = drawnAnew(seed * 2 + 353);
            due("X whichever it was", y.is(1), (seed * 2 + 353) % 6 == 5 ? drawnAnew(drawn) : drawn);
        }
    }

    private static void nTimes() {
        sentence("n times (1 .. 40): x is X, X anew (as in a draw): x mod 6:");
        RailsGrowWider x = new RailsGrowWider();
        due("0 times", x.years(0, 0), NONE);
        due("41 times", x.years(0, 41), NONE);
        for (int n = 1; n <= 40; n++) {
            int drawn = 353;
            int hours = 0;
            for (int k = 0; k < n; k++) {
                // an HOUR without CARS draws once more
                boolean hour = drawn % 6 >= 4;
                drawn = drawnAnew(drawn);
                if (hour) {
                    drawn = drawnAnew(drawn);
                    hours++;
                }
            }
            RailsGrowWider y = new RailsGrowWider();
            due("HOUR behind " + n, y.years(0, n), hours);
            due("X behind " + n, y.is(1), drawn);
        }
    }

    /** CAR 0 stands on a TRACK with feet, there are WHEELS of both widths. */
    private static RailsGrowWider standing(int track, boolean wide) {
        RailsGrowWider x = ofLoads(1);
        if (track > 0) {
            x.move(0, 1);
        }
        if (wide) {
            x.lend(1, 1);
            x.change();
        }
        if (track == 2) {
            x.move(1, 2);
        }
        due("TRACK", x.of(0, 2), track);
        due("feet", x.of(0, 4), wide ? 1 : 0);
        return x;
    }

    private static void movedInYears() {
        sentence("0, 1 MOVED from TRACK x / 6 mod 3 to the next one (0, 1, 2, 0) or, if x mod 4 is above 1, to the one behind that;");
        for (int mod6 = 0; mod6 <= 1; mod6++) {
            for (int mod4 = 0; mod4 <= 3; mod4++) {
                if ((mod6 + mod4) % 2 == 0) {
                    movedFromEach(mod6, mod4);
                }
            }
        }
    }

    private static void movedFromEach(int mod6, int mod4) {
        boolean next = mod4 <= 1;
        // 0 to 1 or (never, for its feet) 2; 1 to 2 or 0; 2 to (never) 0 or 1
        goes(mod6, mod4, 0, standing(0, false), next ? 1 : 0);
        goes(mod6, mod4, 1, standing(1, false), next ? 1 : 0);
        goes(mod6, mod4, 1, standing(1, true), next ? 2 : 1);
        goes(mod6, mod4, 2, standing(2, true), next ? 2 : 1);
        for (int from = 0; from <= 2; from++) {
            goes(mod6, mod4, from, standing((from + 1) % 3, from != 2), (from + 1) % 3);
        }
    }

    private static void goes(int mod6, int mod4, int from, RailsGrowWider x, int to) {
        int seed = seedOfSecond(drawn -> drawn % 6 == mod6 && drawn % 4 == mod4 && drawn / 6 % 3 == from);
        int at = x.of(0, 2);
        int lines = x.book(NONE, 0);
        due("no HOUR passes", x.years(seed, 2), 0);
        due("x mod 6 " + mod6 + ", mod 4 " + mod4 + ", from " + from + ": TRACK", x.of(0, 2), to);
        due("written down", x.book(NONE, 0), to == at ? lines : lines + 1);
    }

    private static void changedInYears() {
        sentence("2 CHANGED;");
        int seed = seedOfSecond(drawn -> drawn % 6 == 2);
        RailsGrowWider x = standing(1, false);
        x.years(seed, 2);
        due("wide", x.of(0, 4), 1);
        x.lend(0, -2);
        x.years(seed, 2);
        due("no narrow WHEELS", x.of(0, 4), 1);
        RailsGrowWider y = standing(0, false);
        y.years(seed, 2);
        due("no CAR on the pit", y.is(4), 0);
        RailsGrowWider z = standing(1, false);
        readAndRule(z, "changes 0;");
        z.years(seed, 2);
        due("changes says 0", z.is(4), 0);
    }

    private static void wheelsInYears() {
        sentence("3 one of narrow WHEELS, if x / 6 is even, else of wide ones, comes (not beyond 9; each if it can be);");
        for (int wide = 0; wide <= 1; wide++) {
            int parity = wide;
            int seed = seedOfSecond(drawn -> drawn % 6 == 3 && drawn / 6 % 2 == parity);
            for (int had : new int[] {0, 1, 7, 8, 9}) {
                RailsGrowWider x = new RailsGrowWider();
                haveWheels(x, wide, had);
                x.years(seed, 2);
                due("one more of " + had, x.is(2 + wide), Math.min(9, had + 1));
                due("the others", x.is(3 - wide), 1);
                due("not written down", x.book(NONE, 0), 0);
            }
        }
        // 363 / 6 is 60, 369 / 6 is 61
        RailsGrowWider y = new RailsGrowWider();
        y.years(5, 1);
        due("narrow", y.is(2), 2);
        y.years(8, 1);
        due("wide", y.is(3), 2);
    }

    private static void hoursInYears() {
        sentence("4, 5 an HOUR (if it can pass).");
        for (int mod6 = 4; mod6 <= 5; mod6++) {
            int wanted = mod6;
            int seed = seedOfSecond(drawn -> drawn % 6 == wanted && drawnAnew(drawn) % 10 == 3);
            RailsGrowWider x = new RailsGrowWider();
            due("HOUR", x.years(seed, 2), 1);
            due("a wide one breaks", x.is(3), 0);
            due("written down", x.ledger(2), 1);
            due("X", x.is(1), drawnAnew(drawnAnew(drawnAnew(seed * 2 + 353))));
            RailsGrowWider late = atHour(9998);
            int wide = late.is(3);
            due("the last HOUR", late.years(seed, 2), 9999);
            due("it passed", late.is(3), Math.max(0, wide - 1));
            wide = late.is(3);
            due("none can pass", late.years(seed, 2), 9999);
            due("nothing breaks", late.is(3), wide);
            due("no more is drawn", late.is(1), drawnAnew(drawnAnew(seed * 2 + 353)));
        }
        RailsGrowWider all = atHour(9999);
        due("40 at 9999", all.years(7, 40), 9999);
        RailsGrowWider few = atHour(9997);
        due("as many as can pass", few.years(0, 40), 9999);
    }

    private static void oneStep() {
        sentence("It is one STEP: HOUR.");
        for (int n : new int[] {1, 40}) {
            RailsGrowWider x = ofLoads(1, 2, 3);
            x.hour(2);
            int hour = x.years(77, n);
            due("HOUR", x.is(0), hour);
            due("STEPS", x.about(3), 3);
            due("taken back at once", x.undo(), 2);
            due("HOUR", x.is(0), 2);
            due("X too", x.is(1), drawnAnew(drawnAnew(drawnAnew(drawnAnew(353)))));
        }
        RailsGrowWider x = new RailsGrowWider();
        for (int k = 0; k < 31; k++) {
            x.years(k, 40);
        }
        due("30 at most", x.about(3), 30);
    }

    // ---- THE IMAGE

    private static void image() {
        sentence("AN IMAGE: all as it is, but the tape and the latest FAULT.");
        RailsGrowWider x = ofLoads(1);
        write(x, "hour 1;hour 61;");
        x.image();
        due("the tape is no part of it", x.end(7), 7);
        x.back();
        due("the tape", x.about(7), 7);
        due("a TEXT of what is left", x.text(), 0);
        x.image();
        due("with a FAULT", read(x, "hour 61;"), NONE);
        x.back();
        due("the latest FAULT is no part of it", x.fault(0), 2);
        due("nor its place", x.fault(1), 5);
        due("the TEXT is", x.about(1), 1);
        RailsGrowWider y = ofLoads(1);
        read(y, "hour 1;");
        y.back();
        due("TEXTS are a part of it", y.about(1), 0);
        due("though the latest one was read without FAULT", y.fault(0), 0);
        for (int what = 0; what <= 6; what++) {
            due("about(" + what + ")", y.about(what), what == 2 ? NONE : 0);
        }
    }

    private static void back() {
        sentence("BACK: all is so again.");
        // each thing that can be told or done, and taken back by BACK
        RailsGrowWider x = Stations.busy();
        RailsGrowWider y = Stations.busy();
        x.image();
        y.image();
        Stations.tellMore(x);
        x.back();
        Whole.alike("so again", Whole.usedUp(x), Whole.usedUp(y));
        // from an empty one and from a full one, to a full one and to an empty one
        RailsGrowWider full = Stations.full();
        full.back();
        RailsGrowWider fresh = new RailsGrowWider();
        Stations.sameTape(full, fresh);
        Whole.alike("empty again", Whole.usedUp(full), Whole.usedUp(fresh));
        RailsGrowWider kept = Stations.full();
        RailsGrowWider other = Stations.full();
        kept.image();
        other.image();
        kept.hour(1);
        kept.undo();
        kept.undo();
        kept.trip(NONE, 0, 0);
        kept.seen(NONE, 0, 0);
        kept.said(NONE, 0);
        kept.want(0);
        kept.by(NONE);
        kept.forbid(0, 1, false);
        kept.back();
        Whole.alike("full again", Whole.usedUp(kept), Whole.usedUp(other));
        stepsThatCameRound();
    }

    /** More than 30 STEPS ahead of THE IMAGE and behind it, not as many. */
    private static void stepsThatCameRound() {
        RailsGrowWider x = new RailsGrowWider();
        x.hour(37);
        x.image();
        x.hour(11);
        due("back", x.back(), 37);
        for (int k = 29; k >= 0; k--) {
            due("undo", x.undo(), k);
            due("HOUR", x.is(0), 7 + k);
        }
        due("none any more", x.undo(), NONE);
        due("back", x.back(), 37);
        due("undo", x.undo(), 29);
    }

    private static void none() {
        sentence("The constants: `NONE = -1`: None.");
        due("NONE", RailsGrowWider.NONE, -1);
    }
}
