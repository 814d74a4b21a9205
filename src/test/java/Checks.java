import java.util.function.IntPredicate;

/** What the tests of bounds share: the sentence that is tested, answers that are due, ways to get somewhere. */
abstract class Checks {
    static final int NONE = RailsGrowWider.NONE;
    static final int LEAST = Integer.MIN_VALUE;
    static final int MOST = Integer.MAX_VALUE;

    private static int asked = 0;
    private static int wrong = 0;
    private static String sentence = "";

    /** What comes now tests these words of the document. */
    static void sentence(String words) {
        sentence = words;
        String trouble = Document.quote(words);
        if (trouble != null) {
            wrong++;
            System.out.println(trouble + ": " + words);
        }
    }

    static void due(String call, long got, long want) {
        asked++;
        if (got != want) {
            wrong++;
            System.out.println("[" + sentence + "] " + call + " answered " + got + ", due is " + want);
        }
    }

    static void due(String call, boolean got, boolean want) {
        due(call, got ? 1 : 0, want ? 1 : 0);
    }

    static void due(String what, String got, String want) {
        asked++;
        if (!got.equals(want)) {
            wrong++;
            System.out.println("[" + sentence + "] " + what + ": " + got + ", due is " + want);
        }
    }

    static void complain(String words) {
        wrong++;
        System.out.println(words);
    }

    /** The exit code of the test. */
    static int exitCode() {
        System.out.println(asked + " answers, " + wrong + " not as due");
        return wrong == 0 ? 0 : 1;
    }

    // ---- the tape

    /** The tape is s alone. */
    static void write(RailsGrowWider x, String s) {
        x.end(0);
        for (int k = 0; k < s.length(); k += 20) {
            feedTwenty(x, s, k);
        }
        x.end(s.length());
    }

    /** Twenty bytes of s from k on; behind its end they are 0. */
    static int feedTwenty(RailsGrowWider x, String s, int k) {
        int[] five = new int[5];
        for (int b = 0; b < 20; b++) {
            five[b / 4] = five[b / 4] << 8 | (k + b < s.length() ? s.charAt(k + b) : 0);
        }
        return x.feed(five[0], five[1], five[2], five[3], five[4]);
    }

    static int read(RailsGrowWider x, String s) {
        write(x, s);
        return x.text();
    }

    static void readAndRule(RailsGrowWider x, String s) {
        int text = read(x, s);
        due("text of " + s, text >= 0, true);
        due("by", x.by(text), true);
    }

    static void reads(String s) {
        faulty(s, 0, NONE);
    }

    static void faulty(String s, int fault, int place) {
        RailsGrowWider x = new RailsGrowWider();
        due("text of " + s, read(x, s), fault == 0 ? 0 : NONE);
        due("fault(0) of " + s, x.fault(0), fault);
        due("fault(1) of " + s, x.fault(1), place);
        due("TEXTS behind " + s, x.about(1), fault == 0 ? 1 : 0);
    }

    /** Blanks behind s, so that it has so many bytes. */
    static String padded(String s, int bytes) {
        return s + " ".repeat(Math.max(0, bytes - s.length()));
    }

    // ---- stations

    /** A CAR of LOAD 1 of each of these KINDS on TRACK 0. */
    static RailsGrowWider ofKinds(int... kinds) {
        RailsGrowWider x = new RailsGrowWider();
        for (int kind : kinds) {
            x.car(kind, 1);
        }
        return x;
    }

    /** A CAR of KIND 0 of each of these LOADS on TRACK 0. */
    static RailsGrowWider ofLoads(int... loads) {
        RailsGrowWider x = new RailsGrowWider();
        for (int load : loads) {
            x.car(0, load);
        }
        return x;
    }

    /** The uppermost CAR of TRACK 0 comes to TRACK 2; WHEELS are as they were. */
    static void bringToWide(RailsGrowWider x) {
        x.move(0, 1);
        if (x.is(3) < 9) {
            x.lend(1, 1);
        }
        x.change();
        x.move(1, 2);
        x.lend(0, -1);
    }

    /** There are so many WHEELS of a width. */
    static void haveWheels(RailsGrowWider x, int wide, int many) {
        int have = x.is(2 + wide);
        if (many != have) {
            x.lend(wide, many - have);
        }
        due("WHEELS", x.is(2 + wide), many);
    }

    // ---- draws

    static int drawnAnew(int x) {
        return (int) ((x * 607L + 479) % 30851);
    }

    /**
     * X is one of those wanted, the lowest SEED's: by a year that would move a CAR of TRACK 2 (where
     * none may stand) and so does nothing else.
     */
    static void drawUntil(RailsGrowWider x, IntPredicate wanted) {
        due("no CAR stands on TRACK 2", x.track(2, NONE), 0);
        for (int seed = 0; seed <= 9999; seed++) {
            int first = seed * 2 + 353;
            if (first % 6 == 1 && first / 6 % 3 == 2 && wanted.test(drawnAnew(first))) {
                x.years(seed, 1);
                due("X", x.is(1), drawnAnew(first));
                return;
            }
        }
        complain("no SEED draws what is wanted");
    }

    // ---- hours

    /** TEXT 0 of a station without TEXTS is 24 times hour 60. HOUR is 9999, by few calls. */
    static void passAllHours(RailsGrowWider x) {
        int text = read(x, "hour 60;".repeat(24));
        for (int k = 0; k < 6; k++) {
            due("1440 HOURS", x.played(text), NONE);
        }
        due("1359 HOURS: 22 times 60, and 39", x.played(text), 22);
        due("HOUR", x.is(0), 9999);
    }

    /** HOUR is this (9969 .. 9999), with STEPS that can be taken back to 9969. */
    static RailsGrowWider atHour(int hour) {
        RailsGrowWider x = new RailsGrowWider();
        passAllHours(x);
        for (int k = 9999; k > hour; k--) {
            x.undo();
        }
        due("HOUR", x.is(0), hour);
        return x;
    }
}
