import java.lang.reflect.Constructor;
import java.lang.reflect.Field;
import java.lang.reflect.Method;
import java.lang.reflect.Modifier;
import java.util.ArrayList;
import java.util.List;
import java.util.Set;
import java.util.TreeSet;
import java.util.function.ToLongFunction;

/** What stands ahead of the terms: what the class is, for how many calls an object is, the public face. */
final class OpeningBounds extends Checks {
    private OpeningBounds() {
    }

    static void all() {
        theStation();
        lawsAndDeeds();
        whatFollows();
        anImage();
        fiveHundredAndTwelveCalls();
        theFace();
    }

    // ---- what it is

    private static void theStation() {
        sentence("Where the rails grow wider: a border station at which every train must change its feet, wheels lifted, rolled out, rolled in, by a crane and a pit;");
        RailsGrowWider x = ofLoads(4);
        due("narrow feet on the wide TRACK", x.move(0, 2), NONE);
        due("no crane but at the pit", x.change(), NONE);
        due("onto the pit", x.move(0, 1), 0);
        due("narrow feet on the wide TRACK", x.move(1, 2), NONE);
        due("other feet", x.change(), 0);
        due("wide feet on the narrow TRACK", x.move(1, 0), NONE);
        due("onto the wide TRACK", x.move(1, 2), 0);
        sentence("cars of kinds with loads on three tracks, each open at one end,");
        RailsGrowWider y = new RailsGrowWider();
        y.car(3, 8);
        y.car(2, 7);
        due("KIND", y.of(0, 0), 3);
        due("LOAD", y.of(1, 1), 7);
        due("the open end's", y.move(0, 1), 1);
        due("the other one then", y.move(0, 1), 0);
        due("the open end's", y.move(1, 0), 0);
        due("three TRACKS", y.track(2, NONE), 0);
        due("no fourth one", y.track(3, NONE), -2);
        sentence("goods that may not stand beside one another, wheels narrow and wide;");
        y.forbid(2, 3, true);
        due("beside one it may not", y.move(0, 1), NONE);
        due("narrow WHEELS", y.is(2), 1);
        due("wide WHEELS", y.is(3), 1);
    }

    private static void lawsAndDeeds() {
        sentence("laws of what may be moved and changed, in a language that tells odd from even and asks for the load on top of any track;");
        RailsGrowWider x = ofLoads(4, 7);
        readAndRule(x, "moves odd load;changes top 0-4;");
        due("odd", x.law(0, 1), 1);
        due("it is moved", x.move(0, 1), 1);
        due("even", x.law(0, 1), 0);
        due("it isn't moved", x.move(0, 1), NONE);
        due("the load on top of 0", x.law(1, 1), 0);
        due("it isn't changed", x.change(), NONE);
        sentence("moving, changing, lending wheels, hours, by hand, by scripts and by years of draws, taken back step by step, a book;");
        RailsGrowWider y = ofLoads(4);
        due("by hand", y.move(0, 1), 0);
        due("a script", read(y, "lend 1 of 1;change;hour 1;"), 0);
        due("by it", y.played(0), NONE);
        due("by years", y.years(7, 3), y.is(0));
        due("lines of the BOOK", y.book(NONE, 0) >= 2, true);
        for (int left = 4; left >= 0; left--) {
            due("taken back", y.undo(), left);
        }
        due("as it was", y.of(0, 2), 0);
        due("WHEELS as they were", y.is(3), 1);
        due("BOOK as it was", y.book(NONE, 0), 0);
        due("none any more", y.undo(), NONE);
    }

    private static void whatFollows() {
        sentence("what comes, shunts to an order that is wanted, how much can be reached, rows in which all may stand, in which order the crane is done first, accounts that are settled by few payments, the least stock for all trips, histories that fit what was seen, odds of being late, whose law it was;");
        RailsGrowWider x = ofLoads(1, 2);
        // X is 353 (3: wide ones break), then 29644 (by 2: CAR 0)
        due("what comes", x.foretold(1, 1), 0);
        due("what comes", x.foretold(1, 2), 1);
        due("shunts: 0 to 1, 0 to 2, 1 to 2", x.shunts(NONE), 3);
        due("2 in a row, 2 ways, cut into 3, 6 ways", x.reach(), 12);
        due("rows", x.rows(0), 2);
        x.times(0, 5, 1);
        x.times(1, 1, 5);
        due("CAR 1 first", x.order(x.crane(false), 0), 1);
        due("1 and 5, and 1", x.crane(true), 7);
        x.owe(0, 1, 5);
        x.owe(1, 2, 5);
        due("one payment for two", x.settled(0), 1);
        x.trip(1, 3, 4);
        x.trip(3, 5, 2);
        due("stock", x.stock(false), 6);
        x.image();
        x.seen(1, 1, 2);
        due("one history", x.histories(false), 1);
        due("0 to 2", x.histories(true), 2);
        x.late(0, 5);
        due("1 of 2", x.likely(1, true), 2);
        read(x, "changes load;");
        read(x, "changes 2;");
        x.said(0, 1);
        due("the first law", x.whose(), 1);
    }

    private static void anImage() {
        sentence("and an image to go back to. ==== I.");
        RailsGrowWider x = ofLoads(3);
        x.hour(2);
        due("image", x.image(), 2);
        x.hour(3);
        x.move(0, 1);
        x.car(1, 1);
        due("back", x.back(), 2);
        due("HOUR", x.is(0), 2);
        due("CARS", x.about(0), 1);
        due("TRACK", x.of(0, 2), 0);
    }

    // ---- for how many calls

    private static void fiveHundredAndTwelveCalls() {
        sentence("An object is used for at most 512 calls after it has been made; what later calls answer is free.");
        afterMany("car", x -> x.car(1, 2));
        afterMany("feed", x -> x.feed(1, 2, 3, 4, 5));
        afterMany("text", RailsGrowWider::text);
        afterMany("move", x -> x.move(1, 0));
        afterMany("change", RailsGrowWider::change);
        afterMany("hour", x -> x.hour(60));
        afterMany("played", x -> x.played(1));
        afterMany("years", x -> x.years(5, 40));
        afterMany("undo", RailsGrowWider::undo);
        afterMany("law", x -> x.law(2, 2));
        afterMany("shunts", x -> x.shunts(NONE));
        afterMany("reach", RailsGrowWider::reach);
        afterMany("crane", x -> x.crane(true));
        afterMany("group", x -> x.group(0));
        afterMany("trip", x -> x.trip(0, 30, 9));
        afterMany("histories", x -> x.histories(false));
        afterMany("whose", RailsGrowWider::whose);
        afterMany("image", RailsGrowWider::image);
        afterMany("back", RailsGrowWider::back);
        stepsAllAlong();
    }

    /** Some 40 calls make it busy, 471 ask: the 512th call answers as the 41st would. */
    private static void afterMany(String name, ToLongFunction<RailsGrowWider> call) {
        RailsGrowWider old = Stations.busy();
        for (int k = 0; k < 471; k++) {
            ask(old, k);
        }
        due("the 512th call, " + name, call.applyAsLong(old), call.applyAsLong(Stations.busy()));
    }

    private static long ask(RailsGrowWider x, int k) {
        switch (k % 8) {
            case 0: return x.shunts(k % 9);
            case 1: return x.reach();
            case 2: return x.histories(true);
            case 3: return x.idle();
            case 4: return x.settled(k % 2);
            case 5: return x.foretold(1 + k % 60, 2);
            case 6: return x.whose();
            default: return x.book(k % 9, k % 4);
        }
    }

    /** A CAR, 480 times moved, then 31 calls that take back: 512 in all. */
    private static void stepsAllAlong() {
        RailsGrowWider x = ofLoads(1);
        for (int k = 0; k < 480; k++) {
            due("moved", x.move(k % 2, 1 - k % 2), 0);
        }
        for (int left = 29; left >= 0; left--) {
            due("taken back", x.undo(), left);
        }
        due("the 512th call", x.undo(), NONE);
    }

    // ---- the public face

    private static void theFace() {
        Set<String> due = new TreeSet<>();
        for (String line : Document.face()) {
            sentence(line);
            if (line.contains(");")) {
                due.add(withoutNames(line));
            }
        }
        due("the class", RailsGrowWider.class.getModifiers(), Modifier.PUBLIC | Modifier.FINAL);
        due("NONE", RailsGrowWider.NONE, -1);
        due("the face", visible().toString(), due.toString());
        due("constants", publicFields().toString(), "[public static final int RailsGrowWider.NONE]");
    }

    /** "public int of(int car, int what);" as "public int of(int, int)". */
    private static String withoutNames(String line) {
        return line.replaceAll("(int|boolean) \\w+(?=[,)])", "$1").replace(";", "");
    }

    private static Set<String> visible() {
        Set<String> visible = new TreeSet<>();
        for (Constructor<?> made : RailsGrowWider.class.getDeclaredConstructors()) {
            visible.add(Modifier.toString(made.getModifiers()) + " RailsGrowWider" + types(made.getParameterTypes()));
        }
        for (Method method : RailsGrowWider.class.getDeclaredMethods()) {
            if (!Modifier.isPrivate(method.getModifiers())) {
                visible.add(Modifier.toString(method.getModifiers()) + " " + method.getReturnType() + " " + method.getName()
                    + types(method.getParameterTypes()));
            }
        }
        return visible;
    }

    private static String types(Class<?>[] types) {
        List<String> names = new ArrayList<>();
        for (Class<?> type : types) {
            names.add(type.getName());
        }
        return "(" + String.join(", ", names) + ")";
    }

    private static List<String> publicFields() {
        List<String> fields = new ArrayList<>();
        for (Field field : RailsGrowWider.class.getDeclaredFields()) {
            if (!Modifier.isPrivate(field.getModifiers())) {
                fields.add(field.toString());
            }
        }
        return fields;
    }
}
