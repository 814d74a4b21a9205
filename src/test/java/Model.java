import java.util.ArrayList;
import java.util.Arrays;
import java.util.HashMap;
import java.util.HashSet;
import java.util.LinkedHashMap;
import java.util.List;
import java.util.Map;
import java.util.Set;

/**
 * The document once more, slowly and by other means than the class: lists and maps that are copied
 * whole, trees for SUMS, exceptions for FAULTS. AgainstModelTest compares the two.
 */
final class Model {
    static final int NONE = -1;

    /** What STEPS change. */
    static final class Now {
        List<List<Integer>> tracks = new ArrayList<>(List.of(new ArrayList<>(), new ArrayList<>(), new ArrayList<>()));
        Map<Integer, Boolean> wide = new HashMap<>();
        Map<Integer, Integer> worn = new HashMap<>();
        int[] wheels = {1, 1};
        int hour = 0;
        long x = 353;
        List<int[]> book = new ArrayList<>();

        Now copy() {
            Now now = new Now();
            for (int t = 0; t < 3; t++) {
                now.tracks.set(t, new ArrayList<>(tracks.get(t)));
            }
            now.wide.putAll(wide);
            now.worn.putAll(worn);
            now.wheels = wheels.clone();
            now.hour = hour;
            now.x = x;
            now.book.addAll(book);
            return now;
        }

        void write(int car, int what, int where) {
            book.add(new int[] {hour, car, what, where});
            if (book.size() > 30) {
                book.remove(0);
            }
        }

        int draw(int by) {
            long x0 = x;
            x = (x * 607 + 479) % 30851;
            return (int) (x0 % by);
        }

        int anHour() {
            int broke = 0;
            int d = draw(10);
            if (d == 0 || d == 1) {
                if (wheels[d] < 9) {
                    wheels[d]++;
                }
            }
            if ((d == 2 || d == 3) && wheels[d - 2] >= 1) {
                wheels[d - 2]--;
                broke++;
                write(NONE, 2, d - 2);
            }
            if (!worn.isEmpty()) {
                int c = draw(worn.size());
                if (worn.get(c) < 9) {
                    worn.put(c, worn.get(c) + 1);
                }
            }
            hour++;
            return broke;
        }
    }

    /** All that an IMAGE holds. */
    static final class All {
        Now now = new Now();
        List<int[]> cars = new ArrayList<>(); // kind, load, lift, roll, odds
        Set<String> forbidden = new HashSet<>();
        List<Script> texts = new ArrayList<>();
        int ruling = NONE;
        List<Now> steps = new ArrayList<>();
        int wanted = 0;
        int[] owed = new int[6];
        List<int[]> trips = new ArrayList<>();
        List<int[]> seen = new ArrayList<>();
        List<int[]> said = new ArrayList<>();

        All copy() {
            All all = new All();
            all.now = now.copy();
            for (int[] car : cars) {
                all.cars.add(car.clone());
            }
            all.forbidden.addAll(forbidden);
            all.texts.addAll(texts);
            all.ruling = ruling;
            for (Now step : steps) {
                all.steps.add(step.copy());
            }
            all.wanted = wanted;
            all.owed = owed.clone();
            all.trips.addAll(trips);
            all.seen.addAll(seen);
            all.said.addAll(said);
            return all;
        }
    }

    // ---- II: texts

    static final class Fault extends RuntimeException {
        final int kind;
        final int place;

        Fault(int kind, int place) {
            super(null, null, false, false);
            this.kind = kind;
            this.place = place;
        }
    }

    interface Sum {
        long value(Map<String, Long> names);
    }

    static final class Script {
        List<int[]> clauses = new ArrayList<>(); // {what, a, b}; what: 0 law 1 car 2 forbid 3 move 4 change 5 lend 6 hour
        Sum moves;
        Sum changes;
    }

    static long limit(long v) {
        return v > 1000000 ? 1000000 : v < -1000000 ? -1000000 : v;
    }

    static final class Parser {
        final List<String> words = new ArrayList<>();
        final List<Integer> places = new ArrayList<>();
        int i = 0;
        int open = 0;
        String clause;

        Parser(String s) {
            int p = 0;
            while (p < s.length()) {
                char c = s.charAt(p);
                if (c == ' ' || c == '\n') {
                    p++;
                    continue;
                }
                int q = p + 1;
                if (String.valueOf(c).matches("[a-zA-Z]")) {
                    while (q < s.length() && String.valueOf(s.charAt(q)).matches("[a-zA-Z]")) {
                        q++;
                    }
                } else if (c >= '0' && c <= '9') {
                    while (q < s.length() && s.charAt(q) >= '0' && s.charAt(q) <= '9') {
                        q++;
                    }
                } else if ((s.startsWith("<=", p) || s.startsWith(">=", p))) {
                    q = p + 2;
                }
                words.add(s.substring(p, q));
                places.add(p);
                p = q;
            }
            words.add("");
            places.add(s.length());
        }

        String peek() {
            return words.get(i);
        }

        Fault fault(int kind) {
            return new Fault(kind, places.get(i));
        }

        boolean take(String w) {
            if (peek().equals(w)) {
                i++;
                return true;
            }
            return false;
        }

        void must(String w) {
            if (!take(w)) {
                throw fault(1);
            }
        }

        int number(int lo, int hi) {
            if (!peek().matches("[0-9]+")) {
                throw fault(1);
            }
            java.math.BigInteger v = new java.math.BigInteger(peek());
            if (v.bitLength() > 30 || v.intValue() < lo || v.intValue() > hi) {
                throw fault(2);
            }
            i++;
            return v.intValue();
        }

        Script script() {
            Script script = new Script();
            while (!peek().isEmpty()) {
                String w = peek();
                if (!List.of("moves", "changes", "car", "forbid", "move", "change", "lend", "hour").contains(w)) {
                    throw fault(1);
                }
                if (w.equals("moves") && script.moves != null || w.equals("changes") && script.changes != null) {
                    throw fault(4);
                }
                if (script.clauses.size() == 24) {
                    throw fault(6);
                }
                i++;
                int a = 0;
                int b = 0;
                int what = 0;
                switch (w) {
                    case "moves" -> {
                        clause = w;
                        script.moves = sum();
                    }
                    case "changes" -> {
                        clause = w;
                        script.changes = sum();
                    }
                    case "car" -> {
                        what = 1;
                        a = number(0, 3);
                        must("load");
                        b = number(1, 9);
                    }
                    case "forbid" -> {
                        what = 2;
                        a = number(0, 3);
                        must("by");
                        b = number(0, 3);
                    }
                    case "move" -> {
                        what = 3;
                        a = number(0, 2);
                        must("to");
                        b = number(0, 2);
                    }
                    case "change" -> what = 4;
                    case "lend" -> {
                        what = 5;
                        a = number(1, 9);
                        must("of");
                        b = number(0, 1);
                    }
                    default -> {
                        what = 6;
                        a = number(1, 60);
                    }
                }
                must(";");
                script.clauses.add(new int[] {what, a, b});
            }
            return script;
        }

        Sum sum() {
            Sum left = product();
            while (peek().equals("+") || peek().equals("-")) {
                boolean plus = peek().equals("+");
                i++;
                Sum l = left;
                Sum r = product();
                left = n -> limit(plus ? l.value(n) + r.value(n) : l.value(n) - r.value(n));
            }
            return left;
        }

        Sum product() {
            Sum left = one();
            while (peek().equals("*") || peek().equals("/")) {
                boolean times = peek().equals("*");
                i++;
                Sum l = left;
                Sum r = one();
                left = n -> {
                    long a = l.value(n);
                    long b = r.value(n);
                    return limit(times ? a * b : b == 0 ? 0 : a / b);
                };
            }
            return left;
        }

        void opened() {
            if (open == 8) {
                throw fault(3);
            }
            open++;
            i++;
        }

        Sum one() {
            String w = peek();
            if (w.matches("[0-9]+")) {
                long v = number(0, 9999);
                return n -> v;
            }
            if (List.of("hour", "number", "load", "kind", "wide", "worn").contains(w)) {
                i++;
                return n -> n.get(w);
            }
            if (List.of("from", "to", "many", "narrow", "broad").contains(w)) {
                boolean ofMoves = List.of("from", "to", "many").contains(w);
                if (ofMoves != clause.equals("moves")) {
                    throw fault(5);
                }
                i++;
                return n -> n.get(w);
            }
            Sum got;
            switch (w) {
                case "(" -> {
                    opened();
                    got = sum();
                    must(")");
                }
                case "-" -> {
                    opened();
                    Sum s = one();
                    got = n -> -s.value(n);
                }
                case "odd" -> {
                    opened();
                    Sum s = one();
                    got = n -> Math.abs(s.value(n)) % 2;
                }
                case "top" -> {
                    opened();
                    Sum s = one();
                    got = n -> n.getOrDefault("top" + s.value(n), 0L);
                }
                case "if" -> {
                    opened();
                    Sum ask = either();
                    must("then");
                    Sum yes = sum();
                    must("else");
                    Sum no = sum();
                    must("end");
                    got = n -> ask.value(n) == 1 ? yes.value(n) : no.value(n);
                }
                default -> throw fault(1);
            }
            open--;
            return got;
        }

        Sum either() {
            Sum left = both();
            while (take("or")) {
                Sum l = left;
                Sum r = both();
                left = n -> l.value(n) + r.value(n) > 0 ? 1 : 0;
            }
            return left;
        }

        Sum both() {
            Sum left = ask();
            while (take("and")) {
                Sum l = left;
                Sum r = ask();
                left = n -> l.value(n) * r.value(n);
            }
            return left;
        }

        Sum ask() {
            if (peek().equals("not")) {
                opened();
                Sum a = ask();
                open--;
                return n -> 1 - a.value(n);
            }
            Sum l = sum();
            String op = peek();
            if (!List.of("<", "<=", ">", ">=", "=", "#").contains(op)) {
                throw fault(1);
            }
            i++;
            Sum r = sum();
            return n -> {
                int c = Long.compare(l.value(n), r.value(n));
                boolean yes = switch (op) {
                    case "<" -> c < 0;
                    case "<=" -> c <= 0;
                    case ">" -> c > 0;
                    case ">=" -> c >= 0;
                    case "=" -> c == 0;
                    default -> c != 0;
                };
                return yes ? 1 : 0;
            };
        }
    }

    // ---- the face

    All all = new All();
    All image = new All();
    StringBuilder tape = new StringBuilder();
    int fault = NONE;
    int faultPlace = NONE;

    boolean isCar(int c) {
        return c >= 0 && c < all.cars.size();
    }

    static boolean isTrack(int t) {
        return t >= 0 && t <= 2;
    }

    int car(int kind, int load) {
        if (kind < 0 || kind > 3 || load < 1 || load > 9 || all.cars.size() == 5) {
            return NONE;
        }
        int c = all.cars.size();
        all.cars.add(new int[] {kind, load, 1, 1, 0});
        comes(c);
        return c;
    }

    private void comes(int c) {
        all.now.tracks.get(0).add(c);
        all.now.wide.put(c, false);
        all.now.worn.put(c, 0);
    }

    boolean forbid(int a, int b, boolean is) {
        if (a < 0 || a > 3 || b < 0 || b > 3) {
            return false;
        }
        for (String pair : List.of(a + " " + b, b + " " + a)) {
            if (is) {
                all.forbidden.add(pair);
            } else {
                all.forbidden.remove(pair);
            }
        }
        return true;
    }

    boolean may(int c, int d) {
        return !all.forbidden.contains(all.cars.get(c)[0] + " " + all.cars.get(d)[0]);
    }

    boolean times(int car, int lift, int roll) {
        if (!isCar(car) || lift < 1 || lift > 20 || roll < 1 || roll > 20) {
            return false;
        }
        all.cars.get(car)[2] = lift;
        all.cars.get(car)[3] = roll;
        return true;
    }

    int feed(int... five) {
        if (tape.length() > 280) {
            return NONE;
        }
        for (int four : five) {
            for (int k = 3; k >= 0; k--) {
                tape.append((char) (four >>> (8 * k) & 255));
            }
        }
        return tape.length();
    }

    int end(int n) {
        if (n < 0 || n > tape.length()) {
            return NONE;
        }
        tape.setLength(n);
        return n;
    }

    int text() {
        if (all.texts.size() == 4) {
            return NONE;
        }
        String s = tape.toString();
        tape.setLength(0);
        try {
            all.texts.add(new Parser(s).script());
            fault = 0;
            faultPlace = NONE;
            return all.texts.size() - 1;
        } catch (Fault f) {
            fault = f.kind;
            faultPlace = f.place;
            return NONE;
        }
    }

    int fault(int what) {
        return what == 0 ? fault : what == 1 ? faultPlace : NONE;
    }

    boolean by(int text) {
        if (text < -1 || text >= all.texts.size()) {
            return false;
        }
        all.ruling = text;
        return true;
    }

    private Map<String, Long> names(int c) {
        Map<String, Long> n = new HashMap<>();
        n.put("hour", (long) all.now.hour);
        n.put("number", (long) c);
        n.put("load", (long) all.cars.get(c)[1]);
        n.put("kind", (long) all.cars.get(c)[0]);
        n.put("wide", all.now.wide.get(c) ? 1L : 0L);
        n.put("worn", (long) all.now.worn.get(c));
        for (int t = 0; t < 3; t++) {
            if (top(t) != NONE) {
                n.put("top" + t, (long) all.cars.get(top(t))[1]);
            }
        }
        return n;
    }

    private int top(int t) {
        List<Integer> track = all.now.tracks.get(t);
        return track.isEmpty() ? NONE : track.get(track.size() - 1);
    }

    private int moves(int from, int to) {
        if (all.ruling == NONE || all.texts.get(all.ruling).moves == null) {
            return 1;
        }
        Map<String, Long> n = names(top(from));
        n.put("from", (long) from);
        n.put("to", (long) to);
        n.put("many", (long) all.now.tracks.get(to).size());
        return (int) Math.max(-99, Math.min(99, all.texts.get(all.ruling).moves.value(n)));
    }

    private int changes(int text, int car) {
        if (text == NONE || all.texts.get(text).changes == null) {
            return 1;
        }
        Map<String, Long> n = names(car);
        n.put("narrow", (long) all.now.wheels[0]);
        n.put("broad", (long) all.now.wheels[1]);
        return (int) Math.max(-99, Math.min(99, all.texts.get(text).changes.value(n)));
    }

    private void step() {
        all.steps.add(all.now.copy());
        if (all.steps.size() > 30) {
            all.steps.remove(0);
        }
    }

    private boolean canMove(int from, int to) {
        if (from == to || top(from) == NONE) {
            return false;
        }
        int c = top(from);
        if (to == 0 && all.now.wide.get(c) || to == 2 && !all.now.wide.get(c)) {
            return false;
        }
        return (top(to) == NONE || may(c, top(to))) && moves(from, to) > 0;
    }

    private int doMove(int from, int to) {
        int c = top(from);
        all.now.tracks.get(from).remove(Integer.valueOf(c));
        all.now.tracks.get(to).add(c);
        all.now.write(c, 0, to);
        return c;
    }

    int move(int from, int to) {
        if (!isTrack(from) || !isTrack(to) || !canMove(from, to)) {
            return NONE;
        }
        step();
        return doMove(from, to);
    }

    private boolean canChange() {
        int c = top(1);
        return c != NONE && all.now.wheels[all.now.wide.get(c) ? 0 : 1] > 0 && changes(all.ruling, c) > 0;
    }

    private int doChange() {
        int c = top(1);
        boolean was = all.now.wide.get(c);
        all.now.wheels[was ? 0 : 1]--;
        all.now.wheels[was ? 1 : 0] = Math.min(9, all.now.wheels[was ? 1 : 0] + 1);
        all.now.wide.put(c, !was);
        all.now.worn.put(c, 0);
        all.now.write(c, 1, was ? 0 : 1);
        return c;
    }

    int change() {
        if (!canChange()) {
            return NONE;
        }
        step();
        return doChange();
    }

    boolean lend(int wide, int n) {
        if (wide < 0 || wide > 1 || n < -9 || n > 9 || n == 0) {
            return false;
        }
        if (all.now.wheels[wide] + n < 0 || all.now.wheels[wide] + n > 9) {
            return false;
        }
        step();
        all.now.wheels[wide] += n;
        return true;
    }

    int hour(int n) {
        if (n < 1 || n > 60 || all.now.hour + n > 9999) {
            return NONE;
        }
        int broke = 0;
        for (int k = 0; k < n; k++) {
            step();
            broke += all.now.anHour();
        }
        return broke;
    }

    int played(int text) {
        if (text < 0 || text >= all.texts.size()) {
            return -2;
        }
        List<int[]> clauses = all.texts.get(text).clauses;
        for (int k = 0; k < clauses.size(); k++) {
            int a = clauses.get(k)[1];
            int b = clauses.get(k)[2];
            boolean can = true;
            switch (clauses.get(k)[0]) {
                case 1 -> can = car(a, b) != NONE;
                case 2 -> can = forbid(a, b, true);
                case 3 -> can = move(a, b) != NONE;
                case 4 -> can = change() != NONE;
                case 5 -> can = lend(b, a);
                case 6 -> {
                    for (int h = 0; h < a && can; h++) {
                        can = hour(1) != NONE;
                    }
                }
                default -> { }
            }
            if (!can) {
                return k;
            }
        }
        return NONE;
    }

    int years(int seed, int n) {
        if (seed < 0 || seed > 9999 || n < 1 || n > 40) {
            return NONE;
        }
        step();
        all.now.x = seed * 2 + 353;
        for (int k = 0; k < n; k++) {
            int x = (int) all.now.x;
            all.now.draw(1);
            int m = x % 6;
            if (m == 0 || m == 1) {
                int from = x / 6 % 3;
                int next = from == 2 ? 0 : from + 1;
                int behind = next == 2 ? 0 : next + 1;
                int to = x % 4 > 1 ? behind : next;
                if (canMove(from, to)) {
                    doMove(from, to);
                }
            } else if (m == 2) {
                if (canChange()) {
                    doChange();
                }
            } else if (m == 3) {
                int w = x / 6 % 2 == 0 ? 0 : 1;
                if (all.now.wheels[w] < 9) {
                    all.now.wheels[w]++;
                }
            } else if (all.now.hour < 9999) {
                all.now.anHour();
            }
        }
        return all.now.hour;
    }

    int undo() {
        if (all.steps.isEmpty()) {
            return NONE;
        }
        all.now = all.steps.remove(all.steps.size() - 1);
        for (int c = 0; c < all.cars.size(); c++) {
            if (!all.now.worn.containsKey(c)) {
                comes(c);
            }
        }
        return all.steps.size();
    }

    int of(int car, int what) {
        if (!isCar(car)) {
            return NONE;
        }
        int on = 0;
        while (!all.now.tracks.get(on).contains(car)) {
            on++;
        }
        int[] tells = {all.cars.get(car)[0], all.cars.get(car)[1], on, all.now.tracks.get(on).indexOf(car),
            all.now.wide.get(car) ? 1 : 0, all.now.worn.get(car)};
        return what >= 0 && what < 6 ? tells[what] : NONE;
    }

    int track(int track, int i) {
        if (!isTrack(track) || i < -1 || i >= all.now.tracks.get(track).size()) {
            return -2;
        }
        return i == NONE ? all.now.tracks.get(track).size() : all.now.tracks.get(track).get(i);
    }

    int law(int from, int to) {
        if (!isTrack(from) || !isTrack(to) || top(from) == NONE) {
            return -100;
        }
        return from == to ? changes(all.ruling, top(from)) : moves(from, to);
    }

    int is(int what) {
        int bits = 0;
        for (int c : all.now.wide.keySet()) {
            bits += all.now.wide.get(c) ? 1 << c : 0;
        }
        int[] tells = {all.now.hour, (int) all.now.x, all.now.wheels[0], all.now.wheels[1], bits};
        return what >= 0 && what < 5 ? tells[what] : -2;
    }

    int book(int i, int what) {
        if (i == NONE) {
            return all.now.book.size();
        }
        if (i < 0 || i >= all.now.book.size() || what < 0 || what > 3) {
            return -2;
        }
        return all.now.book.get(i)[what];
    }

    int foretold(int n, int what) {
        if (n < 1 || n > 60 || what < 0 || what > 2) {
            return NONE;
        }
        Now then = all.now.copy();
        for (int k = 0; k < n; k++) {
            if (then.hour < 9999) {
                then.anHour();
            }
        }
        return what < 2 ? then.wheels[what] : then.worn.values().stream().mapToInt(w -> w).sum();
    }

    boolean want(int order) {
        if (order < 0 || order > 119) {
            return false;
        }
        all.wanted = order;
        return true;
    }

    static final List<List<Integer>> ROWS = new ArrayList<>();

    static {
        for (int number = 0; number < 100000; number++) {
            String digits = String.format("%05d", number);
            Set<Integer> row = new java.util.LinkedHashSet<>();
            for (char d : digits.toCharArray()) {
                if (d < '5') {
                    row.add(d - '0');
                }
            }
            if (row.size() == 5) {
                ROWS.add(new ArrayList<>(row));
            }
        }
    }

    private List<Integer> row(int order) {
        List<Integer> row = new ArrayList<>(ROWS.get(order));
        row.removeIf(c -> !isCar(c));
        return row;
    }

    private List<List<Integer>> moved(List<List<Integer>> stand, int from, int to) {
        if (from == to || stand.get(from).isEmpty()) {
            return null;
        }
        int c = stand.get(from).get(stand.get(from).size() - 1);
        List<Integer> onto = stand.get(to);
        if (!onto.isEmpty() && !may(c, onto.get(onto.size() - 1))) {
            return null;
        }
        List<List<Integer>> next = new ArrayList<>();
        for (int t = 0; t < 3; t++) {
            List<Integer> track = new ArrayList<>(stand.get(t));
            if (t == from) {
                track.remove(track.size() - 1);
            }
            if (t == to) {
                track.add(c);
            }
            next.add(track);
        }
        return next;
    }

    /** Every reachable way to stand with the lowest of its shortest rows of moves, by levels. */
    private Map<List<List<Integer>>, List<Integer>> reached() {
        Map<List<List<Integer>>, List<Integer>> best = new LinkedHashMap<>();
        Map<List<List<Integer>>, List<Integer>> level = new HashMap<>();
        level.put(all.now.copy().tracks, new ArrayList<>());
        while (!level.isEmpty()) {
            best.putAll(level);
            Map<List<List<Integer>>, List<Integer>> next = new HashMap<>();
            for (Map.Entry<List<List<Integer>>, List<Integer>> e : level.entrySet()) {
                for (int m = 0; m < 9; m++) {
                    List<List<Integer>> to = moved(e.getKey(), m / 3, m % 3);
                    if (to == null || best.containsKey(to)) {
                        continue;
                    }
                    List<Integer> path = new ArrayList<>(e.getValue());
                    path.add(m);
                    List<Integer> old = next.get(to);
                    if (old == null || path.toString().compareTo(old.toString()) < 0) {
                        next.put(to, path);
                    }
                }
            }
            level = next;
        }
        return best;
    }

    int shunts(int i) {
        List<Integer> path = reached().get(List.of(List.of(), List.of(), row(all.wanted)));
        if (path == null || i < -1 || i >= path.size()) {
            return -2;
        }
        return i == NONE ? path.size() : path.get(i);
    }

    int reach() {
        return reached().size();
    }

    int order(int order, int i) {
        if (order < 0 || order > 119 || i < 0 || i >= all.cars.size()) {
            return -2;
        }
        return row(order).get(i);
    }

    private void rowsOf(List<Integer> left, List<Integer> row, List<List<Integer>> into) {
        if (left.isEmpty()) {
            into.add(new ArrayList<>(row));
        }
        for (int c : left) {
            if (row.isEmpty() || may(row.get(row.size() - 1), c)) {
                List<Integer> rest = new ArrayList<>(left);
                rest.remove(Integer.valueOf(c));
                row.add(c);
                rowsOf(rest, row, into);
                row.remove(row.size() - 1);
            }
        }
    }

    private List<List<Integer>> rowsOn(int track) {
        List<Integer> cars = new ArrayList<>(all.now.tracks.get(track));
        cars.sort(null);
        List<List<Integer>> rows = new ArrayList<>();
        rowsOf(cars, new ArrayList<>(), rows);
        return rows;
    }

    long rows(int track) {
        return isTrack(track) ? rowsOn(track).size() : NONE;
    }

    int lowest(int track, int i) {
        if (!isTrack(track) || rowsOn(track).isEmpty()) {
            return -2;
        }
        List<Integer> row = rowsOn(track).get(0);
        return i >= 0 && i < row.size() ? row.get(i) : -2;
    }

    /** Hour by hour: when all have rolled, and how long nothing rolled. */
    private int[] worked(List<Integer> row) {
        List<Integer> toLift = new ArrayList<>(row);
        List<Integer> lifted = new ArrayList<>();
        int lifting = 0;
        int rolling = 0;
        int rolledAll = 0;
        int idle = 0;
        int t = 0;
        while (rolledAll < row.size()) {
            if (rolling == 0 && !lifted.isEmpty()) {
                rolling = all.cars.get(lifted.remove(0))[3];
            }
            if (rolling > 0) {
                rolling--;
                if (rolling == 0) {
                    rolledAll++;
                }
            } else {
                idle++;
            }
            if (!toLift.isEmpty()) {
                lifting++;
                if (lifting == all.cars.get(toLift.get(0))[2]) {
                    lifted.add(toLift.remove(0));
                    lifting = 0;
                }
            }
            t++;
        }
        return new int[] {t, idle};
    }

    private int bestOrder() {
        int best = 0;
        for (int o = 119; o >= 0; o--) {
            if (worked(row(o))[0] <= worked(row(best))[0]) {
                best = o;
            }
        }
        for (int o = 0; o < 120; o++) {
            if (worked(row(o))[0] == worked(row(best))[0]) {
                return o;
            }
        }
        return best;
    }

    int crane(boolean time) {
        return time ? worked(row(bestOrder()))[0] : bestOrder();
    }

    int idle() {
        return worked(row(bestOrder()))[1];
    }

    boolean owe(int a, int b, int sum) {
        if (a < 0 || a > 5 || b < 0 || b > 5 || a == b || sum < 1 || sum > 99) {
            return false;
        }
        all.owed[b] += sum;
        all.owed[a] -= sum;
        return true;
    }

    int balance(int r) {
        return r >= 0 && r < 6 ? all.owed[r] : -100000;
    }

    /** All ways to settle, each a list of groups (bits), by the lowest railway of each. */
    private void ways(int r, List<Integer> groups, List<List<Integer>> into) {
        if (r == 6) {
            for (int g : groups) {
                int sum = 0;
                for (int k = 0; k < 6; k++) {
                    sum += (g >> k & 1) * all.owed[k];
                }
                if (sum != 0) {
                    return;
                }
            }
            into.add(new ArrayList<>(groups));
            return;
        }
        for (int k = 0; k < groups.size(); k++) {
            groups.set(k, groups.get(k) + (1 << r));
            ways(r + 1, groups, into);
            groups.set(k, groups.get(k) - (1 << r));
        }
        groups.add(1 << r);
        ways(r + 1, groups, into);
        groups.remove(groups.size() - 1);
    }

    private List<Integer> settledBy() {
        List<List<Integer>> into = new ArrayList<>();
        ways(0, new ArrayList<>(), into);
        List<Integer> best = into.get(0);
        for (List<Integer> way : into) {
            if (way.size() > best.size() || way.size() == best.size() && lower(way, best)) {
                best = way;
            }
        }
        return best;
    }

    private static boolean lower(List<Integer> a, List<Integer> b) {
        for (int k = 0; k < a.size(); k++) {
            if (!a.get(k).equals(b.get(k))) {
                return a.get(k) < b.get(k);
            }
        }
        return false;
    }

    int settled(int what) {
        int groups = settledBy().size();
        return what == 0 ? 6 - groups : what == 1 ? groups : NONE;
    }

    int group(int r) {
        for (int g : settledBy()) {
            if (r >= 0 && r < 6 && (g >> r & 1) == 1) {
                return g;
            }
        }
        return NONE;
    }

    int trip(int from, int to, int n) {
        if (from == NONE) {
            all.trips.clear();
            return 0;
        }
        if (from < 0 || to > 30 || from > to || n < 1 || n > 9 || all.trips.size() == 8) {
            return -2;
        }
        all.trips.add(new int[] {from, to, n});
        return all.trips.size();
    }

    private int firstFailing(int stock) {
        for (int d = 0; d <= 30; d++) {
            int left = stock;
            for (int[] t : all.trips) {
                left -= t[0] <= d && d <= t[1] ? t[2] : 0;
            }
            if (left < 0) {
                return d;
            }
        }
        return NONE;
    }

    int stock(boolean day) {
        int stock = 0;
        while (firstFailing(stock) != NONE) {
            stock++;
        }
        return !day ? stock : stock == 0 ? NONE : firstFailing(stock - 1);
    }

    int seen(int moment, int car, int track) {
        if (moment == NONE) {
            all.seen.clear();
            return 0;
        }
        if (moment < 0 || moment > 3 || !isCar(car) || !isTrack(track) || all.seen.size() == 4) {
            return -2;
        }
        all.seen.add(new int[] {moment, car, track});
        return all.seen.size();
    }

    private void histories(List<List<Integer>> stand, int moment, int last, int number, List<Integer> into) {
        for (int[] s : all.seen) {
            if (s[0] == moment && !stand.get(s[2]).contains(s[1])) {
                return;
            }
        }
        if (moment == last) {
            into.add(number);
            return;
        }
        for (int m = 0; m < 9; m++) {
            List<List<Integer>> next = moved(stand, m / 3, m % 3);
            if (next != null) {
                histories(next, moment + 1, last, number * 9 + m, into);
            }
        }
    }

    int histories(boolean first) {
        int last = all.seen.stream().mapToInt(s -> s[0]).max().orElse(0);
        List<Integer> into = new ArrayList<>();
        histories(image.now.tracks, 0, last, 0, into);
        return first ? into.stream().mapToInt(n -> n).min().orElse(NONE) : into.size();
    }

    boolean late(int car, int odds) {
        if (!isCar(car) || odds < 0 || odds > 10) {
            return false;
        }
        all.cars.get(car)[4] = odds;
        return true;
    }

    long likely(int cars, boolean low) {
        if (cars < 0) {
            return NONE;
        }
        java.math.BigInteger up = java.math.BigInteger.ONE;
        java.math.BigInteger down = java.math.BigInteger.ONE;
        for (int c = 0; c < 31; c++) {
            if ((cars >> c & 1) == 1) {
                if (!isCar(c)) {
                    return NONE;
                }
                up = up.multiply(java.math.BigInteger.valueOf(10 - all.cars.get(c)[4]));
                down = down.multiply(java.math.BigInteger.TEN);
            }
        }
        return (low ? down : up).divide(up.gcd(down)).longValue();
    }

    int said(int car, int changes) {
        if (car == NONE) {
            all.said.clear();
            return 0;
        }
        if (!isCar(car) || changes < -9 || changes > 9 || all.said.size() == 8) {
            return -2;
        }
        all.said.add(new int[] {car, changes});
        return all.said.size();
    }

    int whose() {
        int bits = 0;
        for (int t = 0; t < all.texts.size(); t++) {
            int text = t;
            if (all.said.stream().allMatch(s -> changes(text, s[0]) == s[1])) {
                bits |= 1 << t;
            }
        }
        return bits;
    }

    int heaviest() {
        int best = NONE;
        int most = 0;
        for (int t = 2; t >= 0; t--) {
            int load = all.now.tracks.get(t).stream().mapToInt(c -> all.cars.get(c)[1]).sum();
            if (load > 0 && load >= most) {
                most = load;
                best = t;
            }
        }
        return best;
    }

    int worn() {
        int best = NONE;
        for (int c = 0; c < all.cars.size(); c++) {
            if (all.now.worn.get(c) > (best == NONE ? 0 : all.now.worn.get(best))) {
                best = c;
            }
        }
        return best;
    }

    int amiss() {
        int n = 0;
        for (List<Integer> track : all.now.tracks) {
            for (int k = 0; k + 1 < track.size(); k++) {
                n += may(track.get(k), track.get(k + 1)) ? 0 : 1;
            }
        }
        return n;
    }

    int ledger(int what) {
        return what < 0 || what > 2 ? -2 : (int) all.now.book.stream().filter(l -> l[2] == what).count();
    }

    int image() {
        image = all.copy();
        return all.now.hour;
    }

    int back() {
        all = image.copy();
        return all.now.hour;
    }

    int about(int what) {
        int[] tells = {all.cars.size(), all.texts.size(), all.ruling, all.steps.size(), all.trips.size(),
            all.seen.size(), all.said.size(), tape.length()};
        return what >= 0 && what < 8 ? tells[what] : -2;
    }
}
