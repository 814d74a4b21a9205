import java.lang.reflect.Method;
import java.lang.reflect.Modifier;
import java.util.ArrayList;
import java.util.List;
import java.util.Random;

/** Long runs of drawn calls (seeds are fixed), each answered by the class and by the Model. */
public final class AgainstModelTest {
    private static final int[] ODD_ONES = {-2, -1, 0, 1, 2, 3, 4, 5, 6, 7, 9, 10, 20, 21, 30, 31, 60, 61, 99, 100,
        119, 120, 9999, 10000, Integer.MAX_VALUE, Integer.MIN_VALUE, -9, -10, -100};

    private final Random random;
    private final RailsGrowWider real = new RailsGrowWider();
    private final Model model = new Model();
    private final List<String> calls = new ArrayList<>();
    private int wrong = 0;

    private AgainstModelTest(long seed) {
        random = new Random(seed);
    }

    private int upTo(int most) {
        return random.nextInt(most + 1);
    }

    /** Mostly within the bounds, at times just beyond or far beyond them. */
    private int about(int least, int most) {
        int kind = random.nextInt(24);
        if (kind == 0) {
            return ODD_ONES[random.nextInt(ODD_ONES.length)];
        }
        if (kind == 1) {
            return random.nextBoolean() ? least - 1 : most + 1;
        }
        return least + random.nextInt(most - least + 1);
    }

    private void due(String call, long got, long want) {
        calls.add(call + " = " + want);
        if (got != want) {
            wrong++;
            System.out.println("run so far: " + calls);
            System.out.println(call + " answered " + got + ", due is " + want);
        }
    }

    private void due(String call, boolean got, boolean want) {
        due(call, got ? 1 : 0, want ? 1 : 0);
    }

    // ---- texts

    private String nameOf(boolean moves) {
        String[] ofMoves = {"hour", "number", "load", "kind", "wide", "worn", "from", "to", "many"};
        String[] ofChanges = {"hour", "number", "load", "kind", "wide", "worn", "narrow", "broad"};
        return moves ? ofMoves[random.nextInt(ofMoves.length)] : ofChanges[random.nextInt(ofChanges.length)];
    }

    private String sum(boolean moves, int depth) {
        StringBuilder s = new StringBuilder(product(moves, depth));
        while (random.nextInt(3) == 0) {
            s.append(random.nextBoolean() ? "+" : "-").append(product(moves, depth));
        }
        return s.toString();
    }

    private String product(boolean moves, int depth) {
        StringBuilder s = new StringBuilder(one(moves, depth));
        while (random.nextInt(4) == 0) {
            s.append(random.nextBoolean() ? "*" : "/").append(one(moves, depth));
        }
        return s.toString();
    }

    private String one(boolean moves, int depth) {
        int kind = random.nextInt(depth > 0 ? 9 : 4);
        switch (kind) {
            case 0: return String.valueOf(random.nextInt(4) == 0 ? random.nextInt(10000) : random.nextInt(10));
            case 1: case 2: case 3: return nameOf(moves);
            case 4: return "(" + sum(moves, depth - 1) + ")";
            case 5: return "-" + one(moves, depth - 1);
            case 6: return "odd " + one(moves, depth - 1);
            case 7: return "top " + one(moves, depth - 1);
            default: return "if " + either(moves, depth - 1) + " then " + sum(moves, depth - 1) + " else "
                + sum(moves, depth - 1) + " end";
        }
    }

    private String either(boolean moves, int depth) {
        StringBuilder s = new StringBuilder(ask(moves, depth));
        while (random.nextInt(3) == 0) {
            s.append(random.nextBoolean() ? " or " : " and ").append(ask(moves, depth));
        }
        return s.toString();
    }

    private String ask(boolean moves, int depth) {
        if (depth > 0 && random.nextInt(4) == 0) {
            return "not " + ask(moves, depth - 1);
        }
        String[] signs = {"<", "<=", ">", ">=", "=", "#"};
        return sum(moves, depth) + signs[random.nextInt(6)] + sum(moves, depth);
    }

    private String clause() {
        switch (random.nextInt(9)) {
            case 0: return "moves " + sum(true, 1 + upTo(3)) + ";";
            case 1: return "changes " + sum(false, 1 + upTo(3)) + ";";
            case 2: return "car " + upTo(3) + " load " + (1 + upTo(8)) + ";";
            case 3: return random.nextInt(3) == 0 ? "forbid " + upTo(3) + " by " + upTo(3) + ";" : "hour 2;";
            case 4: case 5: return "move " + upTo(2) + " to " + upTo(2) + ";";
            case 6: return "change;";
            case 7: return "lend " + (1 + upTo(2)) + " of " + upTo(1) + ";";
            default: return "hour " + (1 + upTo(9)) + ";";
        }
    }

    private String clauses() {
        if (random.nextInt(12) == 0) {
            return "change;".repeat(22 + upTo(4)) + clause();
        }
        StringBuilder s = new StringBuilder();
        int many = upTo(7);
        for (int k = 0; k < many; k++) {
            s.append(clause());
            if (random.nextInt(4) == 0) {
                s.append(random.nextBoolean() ? " " : "\n");
            }
        }
        return s.toString();
    }

    private static final String[] PIECES = {"moves", "changes", "car", "load", "forbid", "by", "move", "to", "change",
        "lend", "of", "hour", "odd", "top", "if", "then", "else", "end", "or", "and", "not", "number", "kind", "wide",
        "worn", "from", "many", "narrow", "broad", "<", "<=", ">", ">=", "=", "#", "+", "-", "*", "/", "(", ")", ";",
        "0", "1", "2", "3", "9", "10", "60", "61", "9999", "10000", "99999999999999999999", "x", "Moves", "!", "\t",
        " ", "\n", "\0", "\u00e9", "(((((((((", "- - - - - - - - -", "not not not not not not not not not",
        "odd odd odd odd odd odd odd odd odd ", "if if if if if if if if if "};

    private String spoilt(String s) {
        if (s.isEmpty()) {
            return PIECES[random.nextInt(PIECES.length)];
        }
        int at = random.nextInt(s.length() + 1);
        switch (random.nextInt(3)) {
            case 0: return s.substring(0, at);
            case 1: return s.substring(0, at) + " " + PIECES[random.nextInt(PIECES.length)] + " " + s.substring(at);
            default:
                int to = Math.min(s.length(), at + 1 + upTo(4));
                return s.substring(0, at) + PIECES[random.nextInt(PIECES.length)] + s.substring(to);
        }
    }

    private void tell(String s) {
        String t = s.length() > 300 ? s.substring(0, 300) : s;
        due("end(0)", real.end(0), model.end(0));
        for (int k = 0; k < t.length(); k += 20) {
            int[] five = new int[5];
            for (int b = 0; b < 20; b++) {
                int c = k + b < t.length() ? t.charAt(k + b) : 0;
                five[b / 4] = five[b / 4] << 8 | c;
            }
            due("feed", real.feed(five[0], five[1], five[2], five[3], five[4]), model.feed(five));
        }
        due("end(" + t.length() + ")", real.end(t.length()), model.end(t.length()));
        due("text() of " + t, real.text(), model.text());
        due("fault(0)", real.fault(0), model.fault(0));
        due("fault(1)", real.fault(1), model.fault(1));
    }

    private void text() {
        String s = clauses();
        int spoils = Math.max(0, upTo(4) - 2);
        for (int k = 0; k < spoils; k++) {
            s = spoilt(s);
        }
        tell(s);
    }

    // ---- calls

    private void change() {
        int a = 0;
        int b = 0;
        int c = 0;
        boolean is = random.nextInt(3) != 0;
        switch (random.nextInt(30)) {
            case 0: case 1: a = about(0, 3); b = about(1, 9);
                due("car " + a + " " + b, real.car(a, b), model.car(a, b)); break;
            case 2: a = about(0, 3); b = about(0, 3); is = random.nextInt(3) == 0;
                due("forbid " + a + " " + b + " " + is, real.forbid(a, b, is), model.forbid(a, b, is)); break;
            case 3: a = about(0, 4); b = about(1, 20); c = about(1, 20);
                due("times " + a + " " + b + " " + c, real.times(a, b, c), model.times(a, b, c)); break;
            case 4: text(); break;
            case 5: a = about(-1, 3); due("by " + a, real.by(a), model.by(a)); break;
            case 6: case 7: case 8: case 9: a = about(0, 2); b = about(0, 2);
                due("move " + a + " " + b, real.move(a, b), model.move(a, b)); break;
            case 10: case 11: due("change", real.change(), model.change()); break;
            case 12: case 13: a = about(0, 1); b = about(-9, 9);
                due("lend " + a + " " + b, real.lend(a, b), model.lend(a, b)); break;
            case 14: case 15: a = random.nextBoolean() ? about(1, 60) : about(1, 3);
                due("hour " + a, real.hour(a), model.hour(a)); break;
            case 16: a = about(0, 3); due("played " + a, real.played(a), model.played(a)); break;
            case 17: a = about(0, 9999); b = about(1, 40);
                due("years " + a + " " + b, real.years(a, b), model.years(a, b)); break;
            case 18: case 19: due("undo", real.undo(), model.undo()); break;
            case 20: a = about(0, 119); due("want " + a, real.want(a), model.want(a)); break;
            case 21: a = about(0, 5); b = about(0, 5); c = random.nextBoolean() ? about(1, 3) : about(1, 99);
                due("owe " + a + " " + b + " " + c, real.owe(a, b, c), model.owe(a, b, c)); break;
            case 22: a = about(-1, 30); b = about(0, 30); c = about(1, 9);
                due("trip " + a + " " + b + " " + c, real.trip(a, b, c), model.trip(a, b, c)); break;
            case 23: case 24: a = about(-1, 3); b = about(0, 4); c = about(0, 2);
                due("seen " + a + " " + b + " " + c, real.seen(a, b, c), model.seen(a, b, c)); break;
            case 25: a = about(0, 4); b = about(0, 10);
                due("late " + a + " " + b, real.late(a, b), model.late(a, b)); break;
            case 26: a = about(-1, 4); b = about(-9, 9);
                due("said " + a + " " + b, real.said(a, b), model.said(a, b)); break;
            case 27: due("image", real.image(), model.image()); break;
            case 28: if (random.nextInt(3) == 0) {
                due("back", real.back(), model.back()); } break;
            default: a = about(0, 4);
                if (random.nextInt(2) == 0 && model.isCar(a)) {
                    // what is so is said, so that whose has something to find
                    b = Math.max(-9, Math.min(9, model.law(model.of(a, 2), model.of(a, 2))));
                    due("said " + a + " " + b, real.said(a, b), model.said(a, b));
                } else {
                    b = random.nextInt();
                    due("feed", real.feed(a, b, c, b, a), model.feed(a, b, c, b, a));
                    a = about(0, 300);
                    due("end " + a, real.end(a), model.end(a));
                }
        }
    }

    private void ask() {
        int a = 0;
        int b = 0;
        boolean is = random.nextBoolean();
        switch (random.nextInt(26)) {
            case 0: a = about(0, 4); b = about(0, 5); due("of " + a + " " + b, real.of(a, b), model.of(a, b)); break;
            case 1: a = about(0, 2); b = about(-1, 4);
                due("track " + a + " " + b, real.track(a, b), model.track(a, b)); break;
            case 2: a = about(0, 2); b = about(0, 2); due("law " + a + " " + b, real.law(a, b), model.law(a, b)); break;
            case 3: a = about(0, 4); due("is " + a, real.is(a), model.is(a)); break;
            case 4: a = about(-1, 29); b = about(0, 3);
                due("book " + a + " " + b, real.book(a, b), model.book(a, b)); break;
            case 5: a = about(1, 60); b = about(0, 2);
                due("foretold " + a + " " + b, real.foretold(a, b), model.foretold(a, b)); break;
            case 6: if (random.nextInt(4) == 0) { a = about(-1, 12); due("shunts " + a, real.shunts(a), model.shunts(a)); } break;
            case 7: if (random.nextInt(4) == 0) { due("reach", real.reach(), model.reach()); } break;
            case 8: a = about(0, 119); b = about(0, 4);
                due("order " + a + " " + b, real.order(a, b), model.order(a, b)); break;
            case 9: a = about(0, 2); due("rows " + a, real.rows(a), model.rows(a)); break;
            case 10: a = about(0, 2); b = about(0, 4);
                due("lowest " + a + " " + b, real.lowest(a, b), model.lowest(a, b)); break;
            case 11: if (random.nextInt(4) == 0) { due("crane " + is, real.crane(is), model.crane(is)); } break;
            case 12: if (random.nextInt(4) == 0) { due("idle", real.idle(), model.idle()); } break;
            case 13: a = about(0, 5); due("balance " + a, real.balance(a), model.balance(a)); break;
            case 14: a = about(0, 1); due("settled " + a, real.settled(a), model.settled(a)); break;
            case 15: a = about(0, 5); due("group " + a, real.group(a), model.group(a)); break;
            case 16: due("stock " + is, real.stock(is), model.stock(is)); break;
            case 17: due("histories " + is, real.histories(is), model.histories(is)); break;
            case 18: a = about(0, 31); due("likely " + a, real.likely(a, is), model.likely(a, is)); break;
            case 19: due("whose", real.whose(), model.whose()); break;
            case 20: due("heaviest", real.heaviest(), model.heaviest()); break;
            case 21: due("worn", real.worn(), model.worn()); break;
            case 22: due("amiss", real.amiss(), model.amiss()); break;
            case 23: a = about(0, 2); due("ledger " + a, real.ledger(a), model.ledger(a)); break;
            case 24: a = about(0, 7); due("about " + a, real.about(a), model.about(a)); break;
            default: a = about(0, 1); due("fault " + a, real.fault(a), model.fault(a)); break;
        }
    }

    /** Everything that is cheap to ask, asked at once: nothing may have changed unseen. */
    private void askAll() {
        for (int a = -2; a < 9; a++) {
            due("about " + a, real.about(a), model.about(a));
            due("is " + a, real.is(a), model.is(a));
            due("balance " + a, real.balance(a), model.balance(a));
            due("ledger " + a, real.ledger(a), model.ledger(a));
            for (int b = -2; b < 7; b++) {
                due("of " + a + " " + b, real.of(a, b), model.of(a, b));
                due("track " + a + " " + b, real.track(a, b), model.track(a, b));
                due("law " + a + " " + b, real.law(a, b), model.law(a, b));
            }
        }
        for (int a = -1; a < 31; a++) {
            for (int b = 0; b < 4; b++) {
                due("book " + a + " " + b, real.book(a, b), model.book(a, b));
            }
            due("likely " + a, real.likely(a, true), model.likely(a, true));
            due("likely " + a, real.likely(a, false), model.likely(a, false));
        }
        due("stock", real.stock(false), model.stock(false));
        due("whose", real.whose(), model.whose());
        due("histories", real.histories(false), model.histories(false));
        due("crane", real.crane(false), model.crane(false));
    }

    private int run(int many) {
        for (int k = 0; k < many && wrong == 0; k++) {
            if (random.nextInt(5) < 3) {
                change();
            } else {
                ask();
            }
            if (random.nextInt(60) == 0) {
                askAll();
            }
        }
        askAll();
        return wrong;
    }

    /** The hours near 9999 are far away: a run that goes there. */
    private int runLate() {
        for (int k = 0; k < 167 && wrong == 0; k++) {
            int n = k < 166 ? 60 : 20 + upTo(18);
            due("hour " + n, real.hour(n), model.hour(n));
        }
        return run(150);
    }

    public static void main(String[] args) {
        int runs = args.length > 0 ? Integer.parseInt(args[0]) : 1500;
        long firstSeed = args.length > 1 ? Long.parseLong(args[1]) : 1;
        int wrong = 0;
        for (int k = 0; k < runs && wrong == 0; k++) {
            AgainstModelTest test = new AgainstModelTest(firstSeed + k);
            wrong += k % 10 == 9 ? test.runLate() : test.run(350);
        }
        wrong += facesDiffer();
        System.out.println(wrong == 0 ? runs + " runs are as the model's" : "a run is not as the model's");
        if (wrong != 0) {
            System.exit(1);
        }
    }

    /** The Model answers every call of the face, so that none is left out here unseen. */
    private static int facesDiffer() {
        int missing = 0;
        for (Method method : RailsGrowWider.class.getDeclaredMethods()) {
            if (Modifier.isPublic(method.getModifiers())) {
                boolean has = false;
                for (Method other : Model.class.getDeclaredMethods()) {
                    has |= other.getName().equals(method.getName());
                }
                missing += has ? 0 : 1;
            }
        }
        return missing;
    }
}
