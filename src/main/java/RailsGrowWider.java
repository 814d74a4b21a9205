import java.util.Arrays;

/**
 * A border station where trains change their wheels. The words in capitals in the comments are
 * those of the document, which says under numbered promises what every call does and answers.
 */
public final class RailsGrowWider {
    public static final int NONE = -1;

    private static final int NO_SUCH = -2;
    private static final int NO_LAW = -100;
    private static final int NO_BALANCE = -100000;

    private static final int MOST_CARS = 5;
    private static final int ALL_CARS = 31;
    private static final int KINDS = 4;
    private static final int MOST_LOAD = 9;
    private static final int MOST_TIME = 20;
    private static final int ODDS = 10;
    private static final int TRACKS = 3;
    private static final int PIT = 1;
    private static final int WIDE_TRACK = 2;
    private static final int MOST_WHEELS = 9;
    private static final int MOST_WORN = 9;
    private static final int LAST_HOUR = 9999;
    private static final int MOST_HOURS = 60;
    private static final int LAST_SEED = 9999;
    private static final int MOST_YEARS = 40;
    private static final int FIRST_X = 353;
    private static final int MOST_LINES = 30;
    private static final int MOST_STEPS = 30;
    private static final int MOVED = 0;
    private static final int CHANGED = 1;
    private static final int BROKEN = 2;

    private static final int MOST_TEXTS = 4;
    private static final int MOST_BYTES = 300;
    private static final int FED_BYTES = 20;
    private static final int MOST_CLAUSES = 24;
    private static final int MOST_OPEN = 8;
    private static final int LAST_NUMBER = 9999;
    private static final int GREATEST = 1000000;
    private static final int GREATEST_LAW = 99;

    private static final int ORDERS = 120;
    private static final int RAILWAYS = 6;
    private static final int GREATEST_SUM = 99;
    private static final int MOST_TRIPS = 8;
    private static final int LAST_DAY = 30;
    private static final int MOST_SEEN = 4;
    private static final int LAST_MOMENT = 3;
    private static final int MOST_SAID = 8;
    private static final int GREATEST_SAID = 9;
    private static final int MOVE_CODES = 9;

    // TOKENS; NAMES come first, so that a NAME's TOKEN is its place among the values of a law.
    private static final String WORDS = "hour number load kind wide worn from to many narrow broad moves changes car forbid move change lend by of odd top if then else end or and not ";
    private static final String SIGNS = "<>=#+-*/();";
    private static final int HOUR = 0;
    private static final int NUMBER_OF_CAR = 1;
    private static final int LOAD = 2;
    private static final int KIND = 3;
    private static final int WIDE = 4;
    private static final int WORN = 5;
    private static final int FROM = 6;
    private static final int TO = 7;
    private static final int MANY = 8;
    private static final int NARROW = 9;
    private static final int BROAD = 10;
    private static final int MOVES = 11;
    private static final int CHANGES = 12;
    private static final int CAR = 13;
    private static final int FORBID = 14;
    private static final int MOVE = 15;
    private static final int CHANGE = 16;
    private static final int LEND = 17;
    private static final int BY = 18;
    private static final int OF = 19;
    private static final int ODD = 20;
    private static final int TOP = 21;
    private static final int IF = 22;
    private static final int THEN = 23;
    private static final int ELSE = 24;
    private static final int END = 25;
    private static final int OR = 26;
    private static final int AND = 27;
    private static final int NOT = 28;
    private static final int FIRST_SIGN = 30;
    private static final int LESS = 30;
    private static final int MORE = 31;
    private static final int LIKE = 32;
    private static final int UNLIKE = 33;
    private static final int PLUS = 34;
    private static final int MINUS = 35;
    private static final int TIMES = 36;
    private static final int OVER = 37;
    private static final int OPEN = 38;
    private static final int CLOSE = 39;
    private static final int SEMICOLON = 40;
    private static final int AT_MOST = 41;
    private static final int AT_LEAST = 42;
    private static final int NEGATIVE = 43;
    private static final int TAPE_END = 44;
    private static final int STRANGE = 45;
    /** A NUMBER's TOKEN is this and the NUMBER. */
    private static final int NUMBER = 100;

    // What the code of a SUM holds: NUMBERS as they are, NAMES and operations above them.
    private static final int NAME_CODE = 10000;
    private static final int OPERATION_CODE = 20000;

    private final Station station;
    private final Station image;
    private final Works works;
    private final Reader reader;
    private final Shunter shunter;
    private final Orders orders;
    private final Accounts accounts;
    private final Yard spare;

    public RailsGrowWider() {
        works = new Works();
        station = works.station;
        image = new Station();
        reader = new Reader();
        shunter = new Shunter();
        orders = new Orders();
        accounts = new Accounts();
        spare = new Yard();
    }

    private static boolean within(int value, int least, int most) {
        return value >= least && value <= most;
    }

    private static boolean isTrack(int track) {
        return within(track, 0, TRACKS - 1);
    }

    private boolean isCar(int car) {
        return within(car, 0, station.yard.countCars() - 1);
    }

    private boolean isText(int text) {
        return within(text, 0, station.textCount - 1) && station.texts[text] != null;
    }

    public int car(int kind, int load) {
        if (!within(kind, 0, KINDS - 1) || !within(load, 1, MOST_LOAD)) {
            return NONE;
        }
        return station.addCar(kind, load);
    }

    public boolean forbid(int a, int b, boolean is) {
        if (!within(a, 0, KINDS - 1) || !within(b, 0, KINDS - 1)) {
            return false;
        }
        return station.setForbidden(a, b, is);
    }

    public boolean times(int car, int lift, int roll) {
        if (!isCar(car) || !within(lift, 1, MOST_TIME) || !within(roll, 1, MOST_TIME)) {
            return false;
        }
        station.lifts[car] = lift;
        station.rolls[car] = roll;
        return true;
    }

    public int feed(int a, int b, int c, int d, int e) {
        if (reader.length + FED_BYTES > MOST_BYTES) {
            return NONE;
        }
        reader.takeFour(a);
        reader.takeFour(b);
        reader.takeFour(c);
        reader.takeFour(d);
        reader.takeFour(e);
        return reader.length;
    }

    public int end(int n) {
        if (!within(n, 0, reader.length)) {
            return NONE;
        }
        reader.length = n;
        return n;
    }

    public int text() {
        if (station.textCount >= MOST_TEXTS) {
            return NONE;
        }
        Text read = reader.readTape();
        reader.length = 0;
        if (read == null) {
            return NONE;
        }
        station.texts[station.textCount] = read;
        station.textCount++;
        return station.textCount - 1;
    }

    public int fault(int what) {
        if (what == 0) {
            return reader.fault;
        }
        return what == 1 ? reader.faultPlace : NONE;
    }

    public boolean by(int text) {
        if (text != NONE && !isText(text)) {
            return false;
        }
        station.ruling = text;
        return true;
    }

    public int move(int from, int to) {
        if (!isTrack(from) || !isTrack(to)) {
            return NONE;
        }
        return works.shift(from, to, true);
    }

    public int change() {
        return works.swapFeet(true);
    }

    public boolean lend(int wide, int n) {
        if (!within(wide, 0, 1) || !within(n, -MOST_WHEELS, MOST_WHEELS) || n == 0) {
            return false;
        }
        return works.lendWheels(wide, n);
    }

    public int hour(int n) {
        if (!within(n, 1, MOST_HOURS) || station.yard.hourNow() + n > LAST_HOUR) {
            return NONE;
        }
        return works.passHours(n);
    }

    public int played(int text) {
        if (!isText(text)) {
            return NO_SUCH;
        }
        Text script = station.texts[text];
        for (int clause = 0; clause < script.countClauses(); clause++) {
            if (!works.playClause(script, clause)) {
                return clause;
            }
        }
        return NONE;
    }

    public int years(int seed, int n) {
        if (!within(seed, 0, LAST_SEED) || !within(n, 1, MOST_YEARS)) {
            return NONE;
        }
        works.beginYears(seed);
        for (int year = 0; year < n; year++) {
            works.passYear();
        }
        return station.yard.hourNow();
    }

    public int undo() {
        return station.steps.takeBack(station.yard) ? station.steps.count : NONE;
    }

    public int of(int car, int what) {
        if (!isCar(car)) {
            return NONE;
        }
        switch (what) {
            case 0: return station.kinds[car];
            case 1: return station.loads[car];
            case 2: return station.yard.trackOf(car);
            case 3: return station.yard.placeOf(car);
            case 4: return station.yard.isWide(car) ? 1 : 0;
            case 5: return station.yard.wornOf(car);
            default: return NONE;
        }
    }

    public int track(int track, int i) {
        if (!isTrack(track)) {
            return NO_SUCH;
        }
        int many = station.yard.countOn(track);
        if (i == NONE) {
            return many;
        }
        return within(i, 0, many - 1) ? station.yard.carAt(track, i) : NO_SUCH;
    }

    public int law(int from, int to) {
        if (!isTrack(from) || !isTrack(to)) {
            return NO_LAW;
        }
        int car = station.yard.uppermost(from);
        if (car == NONE) {
            return NO_LAW;
        }
        return from == to ? works.changesSays(station.rulingText(), car) : works.movesSays(car, from, to);
    }

    public int is(int what) {
        switch (what) {
            case 0: return station.yard.hourNow();
            case 1: return station.yard.cells[Yard.X];
            case 2: return station.yard.wheelsOf(0);
            case 3: return station.yard.wheelsOf(1);
            case 4: return station.yard.cells[Yard.FEET];
            default: return NO_SUCH;
        }
    }

    public int book(int i, int what) {
        int lines = station.yard.countLines();
        if (i == NONE) {
            return lines;
        }
        return within(i, 0, lines - 1) && within(what, 0, 3) ? station.yard.lineTells(i, what) : NO_SUCH;
    }

    public int foretold(int n, int what) {
        if (!within(n, 1, MOST_HOURS) || !within(what, 0, 2)) {
            return NONE;
        }
        spare.copyFrom(station.yard);
        for (int passed = 0; passed < n && spare.hourCanPass(); passed++) {
            spare.passHour();
        }
        return what == 2 ? spare.wornTogether() : spare.wheelsOf(what);
    }

    public boolean want(int order) {
        if (!within(order, 0, ORDERS - 1)) {
            return false;
        }
        station.wanted = order;
        return true;
    }

    public int shunts(int i) {
        exploreFromNow();
        int goal = shunter.placeOfGoal(wantedCode());
        if (goal == NONE) {
            return NO_SUCH;
        }
        int many = shunter.countMovesTo(goal);
        if (i == NONE) {
            return many;
        }
        return within(i, 0, many - 1) ? shunter.moveOnWayTo(goal, many - 1 - i) : NO_SUCH;
    }

    public int reach() {
        exploreFromNow();
        return shunter.found;
    }

    private void exploreFromNow() {
        shunter.explore(Shunter.codeOf(station.yard), station.yard.countCars(), station.pairsThatMay());
    }

    private int wantedCode() {
        int many = orders.fillRow(station.wanted, station.yard.toldCars());
        int code = 0;
        int below = Shunter.FLOOR + WIDE_TRACK;
        for (int i = 0; i < many; i++) {
            code |= below << (3 * orders.row[i]);
            below = orders.row[i];
        }
        return code;
    }

    public int order(int order, int i) {
        if (!within(order, 0, ORDERS - 1)) {
            return NO_SUCH;
        }
        int many = orders.fillRow(order, station.yard.toldCars());
        return within(i, 0, many - 1) ? orders.row[i] : NO_SUCH;
    }

    public long rows(int track) {
        if (!isTrack(track)) {
            return NONE;
        }
        int pairs = station.pairsThatMay();
        int cars = station.yard.carsOn(track);
        long all = 0;
        for (int order = 0; order < ORDERS; order++) {
            if (orders.mayStand(order, cars, pairs)) {
                all++;
            }
        }
        // Each row of some CARS stands in as many ORDERS as the rest can be strewn into it.
        return all * Orders.countRows(station.yard.countOn(track)) / ORDERS;
    }

    public int lowest(int track, int i) {
        if (!isTrack(track) || !within(i, 0, station.yard.countOn(track) - 1)) {
            return NO_SUCH;
        }
        int pairs = station.pairsThatMay();
        int cars = station.yard.carsOn(track);
        for (int order = 0; order < ORDERS; order++) {
            if (orders.mayStand(order, cars, pairs)) {
                return orders.row[i];
            }
        }
        return NO_SUCH;
    }

    public int crane(boolean time) {
        int best = fastestOrder();
        return time ? orders.timeOf(best, station) : best;
    }

    public int idle() {
        int time = orders.timeOf(fastestOrder(), station);
        int rolling = 0;
        for (int car = 0; car < station.yard.countCars(); car++) {
            rolling += station.rolls[car];
        }
        return time - rolling;
    }

    private int fastestOrder() {
        int best = 0;
        int least = orders.timeOf(0, station);
        for (int order = 1; order < ORDERS; order++) {
            int time = orders.timeOf(order, station);
            if (time < least) {
                least = time;
                best = order;
            }
        }
        return best;
    }

    public boolean owe(int a, int b, int sum) {
        if (!isRailway(a) || !isRailway(b) || a == b || !within(sum, 1, GREATEST_SUM)) {
            return false;
        }
        station.balances[a] -= sum;
        station.balances[b] += sum;
        return true;
    }

    private static boolean isRailway(int railway) {
        return within(railway, 0, RAILWAYS - 1);
    }

    public int balance(int railway) {
        return isRailway(railway) ? station.balances[railway] : NO_BALANCE;
    }

    public int settled(int what) {
        if (!within(what, 0, 1)) {
            return NONE;
        }
        int groups = accounts.mostGroups(station.balances);
        return what == 1 ? groups : RAILWAYS - groups;
    }

    public int group(int railway) {
        return isRailway(railway) ? accounts.groupOf(railway, station.balances) : NONE;
    }

    public int trip(int from, int to, int n) {
        if (from == NONE) {
            return station.trips.empty();
        }
        if (!within(from, 0, LAST_DAY) || !within(to, from, LAST_DAY) || !within(n, 1, MOST_WHEELS)) {
            return NO_SUCH;
        }
        return station.trips.add(from, to, n);
    }

    public int stock(boolean day) {
        int most = 0;
        int first = NONE;
        for (int today = 0; today <= LAST_DAY; today++) {
            int out = wheelsOut(today);
            if (out > most) {
                most = out;
                first = today;
            }
        }
        return day ? first : most;
    }

    private int wheelsOut(int day) {
        Table trips = station.trips;
        int out = 0;
        for (int i = 0; i < trips.size; i++) {
            if (within(day, trips.cell(i, 0), trips.cell(i, 1))) {
                out += trips.cell(i, 2);
            }
        }
        return out;
    }

    public int seen(int moment, int car, int track) {
        if (moment == NONE) {
            return station.sightings.empty();
        }
        if (!within(moment, 0, LAST_MOMENT) || !isCar(car) || !isTrack(track)) {
            return NO_SUCH;
        }
        return station.sightings.add(moment, car, track);
    }

    public int histories(boolean first) {
        int moments = lastMomentSeen();
        int rowsOfMoves = 1;
        for (int moment = 0; moment < moments; moment++) {
            rowsOfMoves *= MOVE_CODES;
        }
        int start = Shunter.codeOf(image.yard);
        int pairs = station.pairsThatMay();
        int ways = 0;
        // Going upwards, the first row that fits is the lowest.
        for (int row = 0; row < rowsOfMoves; row++) {
            if (fitsAllSeen(row, rowsOfMoves, start, pairs)) {
                if (first) {
                    return row;
                }
                ways++;
            }
        }
        return first ? NONE : ways;
    }

    private int lastMomentSeen() {
        int last = 0;
        for (int i = 0; i < station.sightings.size; i++) {
            last = Math.max(last, station.sightings.cell(i, 0));
        }
        return last;
    }

    private boolean fitsAllSeen(int row, int rowsOfMoves, int start, int pairs) {
        int cars = image.yard.countCars();
        int code = start;
        int moment = 0;
        for (int digit = rowsOfMoves / MOVE_CODES; digit > 0; digit /= MOVE_CODES) {
            if (!fitsSeen(moment, code, cars)) {
                return false;
            }
            code = shunter.codeBehind(code, cars, row / digit % MOVE_CODES, pairs);
            if (code == NONE) {
                return false;
            }
            moment++;
        }
        return fitsSeen(moment, code, cars);
    }

    private boolean fitsSeen(int moment, int code, int cars) {
        Table sightings = station.sightings;
        for (int i = 0; i < sightings.size; i++) {
            if (sightings.cell(i, 0) == moment) {
                int car = sightings.cell(i, 1);
                if (car >= cars || Shunter.trackIn(code, car) != sightings.cell(i, 2)) {
                    return false;
                }
            }
        }
        return true;
    }

    public boolean late(int car, int odds) {
        if (!isCar(car) || !within(odds, 0, ODDS)) {
            return false;
        }
        station.odds[car] = odds;
        return true;
    }

    public long likely(int cars, boolean low) {
        if (!within(cars, 0, station.yard.toldCars())) {
            return NONE;
        }
        long upper = 1;
        long lower = 1;
        for (int car = 0; car < MOST_CARS; car++) {
            if ((cars >> car & 1) != 0) {
                upper *= ODDS - station.odds[car];
                lower *= ODDS;
            }
        }
        long shared = commonDivisor(upper, lower);
        if (shared == 0) {
            return NONE;
        }
        return (low ? lower : upper) / shared;
    }

    private static long commonDivisor(long a, long b) {
        long greater = b;
        long smaller = a;
        for (int n = 0; n < 1000 && smaller != 0; n++) {
            long rest = greater % smaller;
            greater = smaller;
            smaller = rest;
        }
        return greater;
    }

    public int said(int car, int changes) {
        if (car == NONE) {
            return station.sayings.empty();
        }
        if (!isCar(car) || !within(changes, -GREATEST_SAID, GREATEST_SAID)) {
            return NO_SUCH;
        }
        return station.sayings.add(car, changes, 0);
    }

    public int whose() {
        int fitting = 0;
        for (int text = 0; text < station.textCount; text++) {
            if (saysAllThatWasSaid(station.texts[text])) {
                fitting |= 1 << text;
            }
        }
        return fitting;
    }

    private boolean saysAllThatWasSaid(Text text) {
        Table sayings = station.sayings;
        for (int i = 0; i < sayings.size; i++) {
            if (works.changesSays(text, sayings.cell(i, 0)) != sayings.cell(i, 1)) {
                return false;
            }
        }
        return true;
    }

    public int heaviest() {
        int heaviest = NONE;
        int most = 0;
        for (int track = 0; track < TRACKS; track++) {
            int load = station.loadOn(track);
            if (load > most) {
                most = load;
                heaviest = track;
            }
        }
        return heaviest;
    }

    public int worn() {
        int mostWorn = NONE;
        int most = 0;
        for (int car = 0; car < station.yard.countCars(); car++) {
            if (station.yard.wornOf(car) > most) {
                most = station.yard.wornOf(car);
                mostWorn = car;
            }
        }
        return mostWorn;
    }

    public int amiss() {
        int pairs = 0;
        for (int track = 0; track < TRACKS; track++) {
            for (int i = 1; i < station.yard.countOn(track); i++) {
                if (!station.mayStandBeside(station.yard.carAt(track, i - 1), station.yard.carAt(track, i))) {
                    pairs++;
                }
            }
        }
        return pairs;
    }

    public int ledger(int what) {
        if (!within(what, MOVED, BROKEN)) {
            return NO_SUCH;
        }
        int lines = 0;
        for (int i = 0; i < station.yard.countLines(); i++) {
            if (station.yard.lineTells(i, 2) == what) {
                lines++;
            }
        }
        return lines;
    }

    public int image() {
        image.copyFrom(station);
        return station.yard.hourNow();
    }

    public int back() {
        station.copyFrom(image);
        return station.yard.hourNow();
    }

    public int about(int what) {
        switch (what) {
            case 0: return station.yard.countCars();
            case 1: return station.textCount;
            case 2: return station.ruling;
            case 3: return station.steps.count;
            case 4: return station.trips.size;
            case 5: return station.sightings.size;
            case 6: return station.sayings.size;
            case 7: return reader.length;
            default: return NO_SUCH;
        }
    }

    /** What STEPS change: one row of numbers, so that a STEP is kept and taken back by one copy. */
    private static final class Yard {
        static final int HOURS = 0;
        static final int X = 1;
        static final int WHEELS = 2;
        static final int CARS = 4;
        static final int FEET = 5;
        static final int WORN_FROM = 6;
        static final int MANY_FROM = 11;
        static final int STAND_FROM = 14;
        static final int LINES = 29;
        static final int BOOK_FROM = 30;
        static final int CELLS = 60;

        final int[] cells = new int[CELLS];

        Yard() {
            cells[X] = FIRST_X;
            cells[WHEELS] = 1;
            cells[WHEELS + 1] = 1;
        }

        void copyFrom(Yard other) {
            System.arraycopy(other.cells, 0, cells, 0, CELLS);
        }

        int hourNow() {
            return cells[HOURS];
        }

        int wheelsOf(int width) {
            return cells[WHEELS + width];
        }

        int countCars() {
            return cells[CARS];
        }

        int toldCars() {
            return (1 << cells[CARS]) - 1;
        }

        boolean isWide(int car) {
            return (cells[FEET] >> car & 1) != 0;
        }

        int wornOf(int car) {
            return cells[WORN_FROM + car];
        }

        int wornTogether() {
            int all = 0;
            for (int car = 0; car < MOST_CARS; car++) {
                all += wornOf(car);
            }
            return all;
        }

        int countOn(int track) {
            return cells[MANY_FROM + track];
        }

        int carAt(int track, int place) {
            return cells[STAND_FROM + MOST_CARS * track + place];
        }

        int uppermost(int track) {
            int many = cells[MANY_FROM + track];
            return many > 0 ? cells[STAND_FROM + MOST_CARS * track + many - 1] : NONE;
        }

        int carsOn(int track) {
            int cars = 0;
            for (int place = 0; place < countOn(track); place++) {
                cars |= 1 << carAt(track, place);
            }
            return cars;
        }

        int placeOn(int track, int car) {
            for (int place = 0; place < countOn(track); place++) {
                if (carAt(track, place) == car) {
                    return place;
                }
            }
            return NONE;
        }

        int trackOf(int car) {
            for (int track = 0; track < TRACKS; track++) {
                if (placeOn(track, car) != NONE) {
                    return track;
                }
            }
            return NONE;
        }

        int placeOf(int car) {
            int track = trackOf(car);
            return track == NONE ? NONE : placeOn(track, car);
        }

        private void putUppermost(int track, int car) {
            int many = countOn(track);
            if (many < MOST_CARS) {
                cells[STAND_FROM + MOST_CARS * track + many] = car;
                cells[MANY_FROM + track] = many + 1;
            }
        }

        int addCar() {
            int car = cells[CARS];
            if (car >= MOST_CARS) {
                return NONE;
            }
            cells[CARS] = car + 1;
            putUppermost(0, car);
            return car;
        }

        void moveUppermost(int from, int to) {
            int car = uppermost(from);
            if (car == NONE) {
                return;
            }
            cells[MANY_FROM + from]--;
            putUppermost(to, car);
            write(car, MOVED, to);
        }

        void changeFeet(int car) {
            int had = isWide(car) ? 1 : 0;
            int has = 1 - had;
            cells[WHEELS + has]--;
            gainWheel(had);
            cells[FEET] ^= 1 << car;
            cells[WORN_FROM + car] = 0;
            write(car, CHANGED, has);
        }

        void gainWheel(int width) {
            cells[WHEELS + width] = Math.min(MOST_WHEELS, cells[WHEELS + width] + 1);
        }

        int draw(int by) {
            int x = drawnX();
            return by > 0 ? x % by : 0;
        }

        int drawnX() {
            int x = cells[X];
            cells[X] = (x * 607 + 479) % 30851;
            return x;
        }

        boolean hourCanPass() {
            return cells[HOURS] < LAST_HOUR;
        }

        /** Answers how many WHEELS break. */
        int passHour() {
            int broken = 0;
            int drawn = draw(10);
            if (drawn < 2) {
                gainWheel(drawn);
            } else if (drawn < 4 && cells[WHEELS + drawn - 2] > 0) {
                cells[WHEELS + drawn - 2]--;
                write(NONE, BROKEN, drawn - 2);
                broken = 1;
            }
            if (countCars() > 0) {
                int car = draw(countCars());
                cells[WORN_FROM + car] = Math.min(MOST_WORN, cells[WORN_FROM + car] + 1);
            }
            cells[HOURS]++;
            return broken;
        }

        int countLines() {
            return cells[LINES];
        }

        private void write(int car, int what, int where) {
            if (cells[LINES] >= MOST_LINES) {
                System.arraycopy(cells, BOOK_FROM + 1, cells, BOOK_FROM, MOST_LINES - 1);
                cells[LINES] = MOST_LINES - 1;
            }
            // One number a line: 2 bits where, 2 bits what, 4 bits CAR and one more, then HOUR.
            cells[BOOK_FROM + cells[LINES]] = cells[HOURS] << 8 | (car + 1) << 4 | what << 2 | where;
            cells[LINES]++;
        }

        int lineTells(int line, int what) {
            int packed = cells[BOOK_FROM + line];
            switch (what) {
                case 0: return packed >> 8;
                case 1: return (packed >> 4 & 15) - 1;
                case 2: return packed >> 2 & 3;
                default: return packed & 3;
            }
        }
    }

    /** The latest STEPS: how the Yard was ahead of each, in a ring. */
    private static final class Steps {
        private final int[] kept = new int[MOST_STEPS * Yard.CELLS];
        private int eldest;
        int count;

        void keep(Yard yard) {
            int place = (eldest + count) % MOST_STEPS;
            System.arraycopy(yard.cells, 0, kept, place * Yard.CELLS, Yard.CELLS);
            if (count < MOST_STEPS) {
                count++;
            } else {
                eldest = (eldest + 1) % MOST_STEPS;
            }
        }

        boolean takeBack(Yard yard) {
            if (count == 0) {
                return false;
            }
            count--;
            int place = (eldest + count) % MOST_STEPS;
            int cars = yard.countCars();
            System.arraycopy(kept, place * Yard.CELLS, yard.cells, 0, Yard.CELLS);
            for (int car = yard.countCars(); car < cars; car++) {
                yard.addCar();
            }
            return true;
        }

        void copyFrom(Steps other) {
            System.arraycopy(other.kept, 0, kept, 0, kept.length);
            eldest = other.eldest;
            count = other.count;
        }
    }

    /** Lines of three numbers, as they were told: TRIPS, SEEN, SAID. */
    private static final class Table {
        private static final int COLUMNS = 3;
        private final int[] cells;
        private final int most;
        int size;

        Table(int most) {
            this.most = Math.max(0, most);
            this.cells = new int[COLUMNS * this.most];
        }

        int add(int a, int b, int c) {
            if (size >= most) {
                return NO_SUCH;
            }
            cells[COLUMNS * size] = a;
            cells[COLUMNS * size + 1] = b;
            cells[COLUMNS * size + 2] = c;
            size++;
            return size;
        }

        int empty() {
            size = 0;
            return 0;
        }

        int cell(int line, int column) {
            return cells[COLUMNS * line + column];
        }

        void copyFrom(Table other) {
            System.arraycopy(other.cells, 0, cells, 0, Math.min(cells.length, other.cells.length));
            size = Math.min(most, other.size);
        }
    }

    /** All that an IMAGE holds. */
    private static final class Station {
        final Yard yard = new Yard();
        final Steps steps = new Steps();
        final int[] kinds = new int[MOST_CARS];
        final int[] loads = new int[MOST_CARS];
        final int[] lifts = new int[MOST_CARS];
        final int[] rolls = new int[MOST_CARS];
        final int[] odds = new int[MOST_CARS];
        final int[] balances = new int[RAILWAYS];
        final Table trips = new Table(MOST_TRIPS);
        final Table sightings = new Table(MOST_SEEN);
        final Table sayings = new Table(MOST_SAID);
        final Text[] texts = new Text[MOST_TEXTS];
        int textCount;
        int ruling = NONE;
        int wanted;
        private int forbidden;

        void copyFrom(Station other) {
            yard.copyFrom(other.yard);
            steps.copyFrom(other.steps);
            System.arraycopy(other.kinds, 0, kinds, 0, MOST_CARS);
            System.arraycopy(other.loads, 0, loads, 0, MOST_CARS);
            System.arraycopy(other.lifts, 0, lifts, 0, MOST_CARS);
            System.arraycopy(other.rolls, 0, rolls, 0, MOST_CARS);
            System.arraycopy(other.odds, 0, odds, 0, MOST_CARS);
            System.arraycopy(other.balances, 0, balances, 0, RAILWAYS);
            trips.copyFrom(other.trips);
            sightings.copyFrom(other.sightings);
            sayings.copyFrom(other.sayings);
            for (int text = 0; text < MOST_TEXTS; text++) {
                texts[text] = other.texts[text];
            }
            textCount = other.textCount;
            ruling = other.ruling;
            wanted = other.wanted;
            forbidden = other.forbidden;
        }

        int addCar(int kind, int load) {
            int car = yard.addCar();
            if (car != NONE) {
                kinds[car] = kind;
                loads[car] = load;
                lifts[car] = 1;
                rolls[car] = 1;
                odds[car] = 0;
            }
            return car;
        }

        boolean setForbidden(int a, int b, boolean is) {
            int both = 1 << (KINDS * a + b) | 1 << (KINDS * b + a);
            forbidden = is ? forbidden | both : forbidden & ~both;
            return true;
        }

        boolean mayStandBeside(int car, int other) {
            return (forbidden >> (KINDS * kinds[car] + kinds[other]) & 1) == 0;
        }

        /** For every two CARS a bit: whether they may stand beside one another. */
        int pairsThatMay() {
            int pairs = 0;
            for (int car = 0; car < yard.countCars(); car++) {
                for (int other = 0; other < yard.countCars(); other++) {
                    if (mayStandBeside(car, other)) {
                        pairs |= 1 << (MOST_CARS * car + other);
                    }
                }
            }
            return pairs;
        }

        int loadOfUppermost(int track) {
            int car = yard.uppermost(track);
            return car == NONE ? 0 : loads[car];
        }

        int loadOn(int track) {
            int load = 0;
            for (int place = 0; place < yard.countOn(track); place++) {
                load += loads[yard.carAt(track, place)];
            }
            return load;
        }

        Text rulingText() {
            return ruling >= 0 && ruling < textCount ? texts[ruling] : null;
        }
    }

    /** What a TEXT says: its CLAUSES, and its laws as code for a Scale. */
    private static final class Text {
        private final int[] clauses;
        final int[] code;
        private final int[] bounds;

        /** The rows are handed over: nobody else keeps them. */
        Text(int[] clauses, int[] code, int[] bounds) {
            this.clauses = clauses;
            this.code = code;
            this.bounds = bounds;
        }

        int countClauses() {
            return clauses.length / 3;
        }

        /** Part 0 is what the CLAUSE is (the TOKEN it begins with), 1 and 2 are its NUMBERS. */
        int clausePart(int clause, int part) {
            return clauses[3 * clause + part];
        }

        /** Law 0 is moves, 1 changes. */
        boolean hasLaw(int law) {
            return bounds[2 * law] != NONE;
        }

        int codeFrom(int law) {
            return bounds[2 * law];
        }

        int codeBehind(int law) {
            return bounds[2 * law + 1];
        }
    }

    /** Weighs the code of a SUM: operands first, on a pile. */
    private static final class Scale {
        /** By NAME; behind them the LOADS on top of the TRACKS. */
        final int[] names = new int[BROAD + 1 + TRACKS];
        private final int[] pile = new int[MOST_BYTES];
        private int height;

        int weigh(Text text, int law) {
            height = 0;
            int behind = Math.min(text.codeBehind(law), text.code.length);
            for (int at = Math.max(0, text.codeFrom(law)); at < behind; at++) {
                int sign = text.code[at];
                if (sign < NAME_CODE) {
                    push(sign);
                } else if (sign < OPERATION_CODE) {
                    push(valueOf(sign - NAME_CODE));
                } else {
                    operate(sign - OPERATION_CODE);
                }
            }
            return Math.max(-GREATEST_LAW, Math.min(GREATEST_LAW, pop()));
        }

        private void push(long value) {
            if (height < pile.length) {
                long atMost = value > GREATEST ? GREATEST : value;
                pile[height] = (int) (atMost < -GREATEST ? -GREATEST : atMost);
                height++;
            }
        }

        private int pop() {
            if (height == 0) {
                return 0;
            }
            height--;
            return pile[height];
        }

        private int valueOf(int name) {
            return name >= 0 && name < names.length ? names[name] : 0;
        }

        private void operate(int operation) {
            int last = pop();
            if (operation == NEGATIVE) {
                push(-last);
            } else if (operation == ODD) {
                push(last & 1);
            } else if (operation == TOP) {
                push(last >= 0 && last < TRACKS ? names[BROAD + 1 + last] : 0);
            } else if (operation == NOT) {
                push(1 - last);
            } else if (operation == IF) {
                // No SUM changes anything, so that both may be weighed and one be taken.
                int then = pop();
                push(pop() != 0 ? then : last);
            } else {
                push(operated(operation, pop(), last));
            }
        }

        private static long operated(int operation, int a, int b) {
            switch (operation) {
                case PLUS: return (long) a + b;
                case MINUS: return (long) a - b;
                case TIMES: return (long) a * b;
                case OVER: return b == 0 ? 0 : a / b;
                case LESS: return a < b ? 1 : 0;
                case AT_MOST: return a <= b ? 1 : 0;
                case MORE: return a > b ? 1 : 0;
                case AT_LEAST: return a >= b ? 1 : 0;
                case LIKE: return a == b ? 1 : 0;
                case UNLIKE: return a != b ? 1 : 0;
                case AND: return a & b;
                case OR: return a | b;
                default: return 0;
            }
        }
    }

    /** What is done at the station: MOVED, CHANGED, LENT, HOURS, PLAYED, YEARS. */
    private static final class Works {
        final Station station = new Station();
        private final Scale scale = new Scale();

        int movesSays(int car, int from, int to) {
            Text text = station.rulingText();
            if (text == null || !text.hasLaw(0)) {
                return 1;
            }
            nameCar(car);
            scale.names[FROM] = from;
            scale.names[TO] = to;
            scale.names[MANY] = station.yard.countOn(to);
            return scale.weigh(text, 0);
        }

        int changesSays(Text text, int car) {
            if (text == null || !text.hasLaw(1)) {
                return 1;
            }
            nameCar(car);
            scale.names[NARROW] = station.yard.wheelsOf(0);
            scale.names[BROAD] = station.yard.wheelsOf(1);
            return scale.weigh(text, 1);
        }

        private void nameCar(int car) {
            Yard yard = station.yard;
            scale.names[HOUR] = yard.hourNow();
            scale.names[NUMBER_OF_CAR] = car;
            scale.names[LOAD] = station.loads[car];
            scale.names[KIND] = station.kinds[car];
            scale.names[WIDE] = yard.isWide(car) ? 1 : 0;
            scale.names[WORN] = yard.wornOf(car);
            for (int track = 0; track < TRACKS; track++) {
                scale.names[BROAD + 1 + track] = station.loadOfUppermost(track);
            }
        }

        /** MOVED, as a STEP of its own or as a part of one. */
        int shift(int from, int to, boolean step) {
            Yard yard = station.yard;
            int car = yard.uppermost(from);
            if (from == to || car == NONE || !feetFit(car, to)) {
                return NONE;
            }
            int beside = yard.uppermost(to);
            if (beside != NONE && !station.mayStandBeside(car, beside)) {
                return NONE;
            }
            if (movesSays(car, from, to) <= 0) {
                return NONE;
            }
            if (step) {
                station.steps.keep(yard);
            }
            yard.moveUppermost(from, to);
            return car;
        }

        private boolean feetFit(int car, int track) {
            return track == PIT || station.yard.isWide(car) == (track == WIDE_TRACK);
        }

        /** CHANGED, as a STEP of its own or as a part of one. */
        int swapFeet(boolean step) {
            Yard yard = station.yard;
            int car = yard.uppermost(PIT);
            if (car == NONE || yard.wheelsOf(yard.isWide(car) ? 0 : 1) == 0) {
                return NONE;
            }
            if (changesSays(station.rulingText(), car) <= 0) {
                return NONE;
            }
            if (step) {
                station.steps.keep(yard);
            }
            yard.changeFeet(car);
            return car;
        }

        boolean lendWheels(int wide, int n) {
            int wheels = station.yard.wheelsOf(wide) + n;
            if (wheels < 0 || wheels > MOST_WHEELS) {
                return false;
            }
            station.steps.keep(station.yard);
            station.yard.cells[Yard.WHEELS + wide] = wheels;
            return true;
        }

        /** Those that can pass do; answers how many WHEELS break. */
        int passHours(int n) {
            int broken = 0;
            for (int passed = 0; passed < n && station.yard.hourCanPass(); passed++) {
                station.steps.keep(station.yard);
                broken += station.yard.passHour();
            }
            return broken;
        }

        /** Whether it could be; a law is nothing to be done. */
        boolean playClause(Text text, int clause) {
            int a = text.clausePart(clause, 1);
            int b = text.clausePart(clause, 2);
            switch (text.clausePart(clause, 0)) {
                case CAR: return station.addCar(a, b) != NONE;
                case FORBID: return station.setForbidden(a, b, true);
                case MOVE: return shift(a, b, true) != NONE;
                case CHANGE: return swapFeet(true) != NONE;
                case LEND: return lendWheels(b, a);
                case HOUR: return passHoursThatCan(a);
                default: return true;
            }
        }

        private boolean passHoursThatCan(int n) {
            boolean allCan = station.yard.hourNow() + n <= LAST_HOUR;
            passHours(n);
            return allCan;
        }

        void beginYears(int seed) {
            station.steps.keep(station.yard);
            station.yard.cells[Yard.X] = seed * 2 + FIRST_X;
        }

        void passYear() {
            Yard yard = station.yard;
            int x = yard.drawnX();
            switch (x % 6) {
                case 0:
                case 1:
                    int from = x / 6 % TRACKS;
                    shift(from, (from + (x % 4 > 1 ? 2 : 1)) % TRACKS, false);
                    break;
                case 2:
                    swapFeet(false);
                    break;
                case 3:
                    yard.gainWheel(x / 6 % 2);
                    break;
                default:
                    if (yard.hourCanPass()) {
                        yard.passHour();
                    }
                    break;
            }
        }
    }

    /** The tape, and the reading of it. */
    private static final class Reader {
        private final byte[] tape = new byte[MOST_BYTES];
        private final int[] tokens = new int[MOST_BYTES + 1];
        private final int[] places = new int[MOST_BYTES + 1];
        private final int[] code = new int[MOST_BYTES];
        private final int[] clauses = new int[3 * MOST_CLAUSES];
        private final int[] bounds = new int[4];
        int length;
        /** NONE until a text has been read. */
        int fault = NONE;
        int faultPlace = NONE;
        private int at;
        private int token;
        private int open;
        private int codeSize;
        private int clauseCount;
        private boolean inMoves;

        void takeFour(int four) {
            for (int shift = 24; shift >= 0 && length < MOST_BYTES; shift -= 8) {
                tape[length] = (byte) (four >> shift);
                length++;
            }
        }

        /** The TEXT; null if it has a FAULT. */
        Text readTape() {
            splitTape();
            fault = 0;
            faultPlace = NONE;
            at = 0;
            token = tokens[0];
            open = 0;
            codeSize = 0;
            clauseCount = 0;
            Arrays.fill(bounds, NONE);
            for (int n = 0; n <= MOST_CLAUSES && token != TAPE_END && fault == 0; n++) {
                readClause();
            }
            if (fault != 0) {
                return null;
            }
            return new Text(Arrays.copyOf(clauses, 3 * clauseCount), Arrays.copyOf(code, codeSize), bounds.clone());
        }

        /** All TOKENS and where they begin, then the end of the tape. */
        private void splitTape() {
            int count = 0;
            int behind;
            for (int first = 0; first < length && count < MOST_BYTES; first = Math.max(first + 1, behind)) {
                behind = first + 1;
                if (tape[first] == ' ' || tape[first] == '\n') {
                    continue;
                }
                if (isLetter(tape[first])) {
                    behind = behindWord(first);
                    tokens[count] = wordAt(first, behind);
                } else if (isDigit(tape[first])) {
                    behind = behindNumber(first);
                    tokens[count] = NUMBER + numberAt(first, behind);
                } else if (startsDouble(first)) {
                    behind = first + 2;
                    tokens[count] = tape[first] == '<' ? AT_MOST : AT_LEAST;
                } else {
                    tokens[count] = signAt(first);
                }
                places[count] = first;
                count++;
            }
            tokens[count] = TAPE_END;
            places[count] = length;
        }

        private static boolean isLetter(int sign) {
            return within(sign, 'a', 'z') || within(sign, 'A', 'Z');
        }

        private static boolean isDigit(int sign) {
            return within(sign, '0', '9');
        }

        private int behindWord(int first) {
            int behind = first;
            while (behind < length && isLetter(tape[behind])) {
                behind++;
            }
            return behind;
        }

        private int wordAt(int first, int behind) {
            int word = 0;
            int letter = first;
            boolean same = true;
            for (int i = 0; i < WORDS.length(); i++) {
                char sign = WORDS.charAt(i);
                if (sign != ' ') {
                    same = same && letter < behind && tape[letter] == sign;
                    letter++;
                } else if (same && letter == behind) {
                    return word;
                } else {
                    word++;
                    letter = first;
                    same = true;
                }
            }
            return STRANGE;
        }

        private int behindNumber(int first) {
            int behind = first;
            while (behind < length && isDigit(tape[behind])) {
                behind++;
            }
            return behind;
        }

        /** However long it is, what is too great stays just so. */
        private int numberAt(int first, int behind) {
            int number = 0;
            for (int i = first; i < behind; i++) {
                number = Math.min(LAST_NUMBER + 1, number * 10 + tape[i] - '0');
            }
            return number;
        }

        private boolean startsDouble(int first) {
            return (tape[first] == '<' || tape[first] == '>') && first + 1 < length && tape[first + 1] == '=';
        }

        private int signAt(int first) {
            int sign = tape[first] < 0 ? NONE : SIGNS.indexOf((char) tape[first]);
            return sign < 0 ? STRANGE : FIRST_SIGN + sign;
        }

        /** Only the first FAULT counts; behind it every TOKEN is STRANGE, so that all reading ends. */
        private void fail(int kind) {
            if (fault == 0) {
                fault = kind;
                faultPlace = places[at];
            }
            token = STRANGE;
        }

        private void nextToken() {
            if (fault == 0 && token != TAPE_END && at + 1 < tokens.length) {
                at++;
                token = tokens[at];
            }
        }

        private void expect(int wanted) {
            if (token == wanted) {
                nextToken();
            } else {
                fail(1);
            }
        }

        private int expectNumber(int least, int most) {
            int number = token - NUMBER;
            if (number < 0) {
                fail(1);
                return 0;
            }
            if (!within(number, least, most)) {
                fail(2);
                return 0;
            }
            nextToken();
            return number;
        }

        private void readClause() {
            int what = token;
            if (!within(what, MOVES, LEND) && what != HOUR) {
                fail(1);
            } else if (what == MOVES && bounds[0] != NONE || what == CHANGES && bounds[2] != NONE) {
                fail(4);
            } else if (clauseCount >= MOST_CLAUSES) {
                fail(6);
            } else {
                nextToken();
                if (what == MOVES || what == CHANGES) {
                    readLaw(what);
                } else {
                    readDeed(what);
                }
                expect(SEMICOLON);
            }
        }

        private void readLaw(int what) {
            inMoves = what == MOVES;
            int law = inMoves ? 0 : 2;
            bounds[law] = codeSize;
            readSum();
            bounds[law + 1] = codeSize;
            addClause(what, 0, 0);
        }

        private void readDeed(int what) {
            int a = 0;
            int b = 0;
            switch (what) {
                case CAR:
                    a = expectNumber(0, KINDS - 1);
                    expect(LOAD);
                    b = expectNumber(1, MOST_LOAD);
                    break;
                case FORBID:
                    a = expectNumber(0, KINDS - 1);
                    expect(BY);
                    b = expectNumber(0, KINDS - 1);
                    break;
                case MOVE:
                    a = expectNumber(0, TRACKS - 1);
                    expect(TO);
                    b = expectNumber(0, TRACKS - 1);
                    break;
                case LEND:
                    a = expectNumber(1, MOST_WHEELS);
                    expect(OF);
                    b = expectNumber(0, 1);
                    break;
                case HOUR:
                    a = expectNumber(1, MOST_HOURS);
                    break;
                default:
                    break;
            }
            addClause(what, a, b);
        }

        private void addClause(int what, int a, int b) {
            if (clauseCount < MOST_CLAUSES) {
                clauses[3 * clauseCount] = what;
                clauses[3 * clauseCount + 1] = a;
                clauses[3 * clauseCount + 2] = b;
                clauseCount++;
            }
        }

        private void emit(int sign) {
            if (codeSize < code.length) {
                code[codeSize] = sign;
                codeSize++;
            }
        }

        private void readSum() {
            readProduct();
            for (int n = 0; n < MOST_BYTES && (token == PLUS || token == MINUS); n++) {
                int operation = token;
                nextToken();
                readProduct();
                emit(OPERATION_CODE + operation);
            }
        }

        private void readProduct() {
            readOne();
            for (int n = 0; n < MOST_BYTES && (token == TIMES || token == OVER); n++) {
                int operation = token;
                nextToken();
                readOne();
                emit(OPERATION_CODE + operation);
            }
        }

        private void readOne() {
            int first = token;
            if (first >= NUMBER) {
                emit(expectNumber(0, LAST_NUMBER));
            } else if (within(first, HOUR, BROAD)) {
                readName(first);
            } else if (first != OPEN && first != MINUS && first != ODD && first != TOP && first != IF) {
                fail(1);
            } else if (opens()) {
                if (first == OPEN) {
                    readSum();
                    expect(CLOSE);
                } else if (first == IF) {
                    readChoice();
                } else {
                    readOne();
                    emit(OPERATION_CODE + (first == MINUS ? NEGATIVE : first));
                }
                open--;
            }
        }

        /** Keeps the depth of all reading within what may be open around one another. */
        private boolean opens() {
            if (open >= MOST_OPEN) {
                fail(3);
                return false;
            }
            open++;
            nextToken();
            return true;
        }

        private void readName(int name) {
            boolean ofOther = inMoves ? within(name, NARROW, BROAD) : within(name, FROM, MANY);
            if (ofOther) {
                fail(5);
            } else {
                emit(NAME_CODE + name);
                nextToken();
            }
        }

        private void readChoice() {
            readEither();
            expect(THEN);
            readSum();
            expect(ELSE);
            readSum();
            expect(END);
            emit(OPERATION_CODE + IF);
        }

        private void readEither() {
            readBoth();
            for (int n = 0; n < MOST_BYTES && token == OR; n++) {
                nextToken();
                readBoth();
                emit(OPERATION_CODE + OR);
            }
        }

        private void readBoth() {
            readAsk();
            for (int n = 0; n < MOST_BYTES && token == AND; n++) {
                nextToken();
                readAsk();
                emit(OPERATION_CODE + AND);
            }
        }

        private void readAsk() {
            if (token == NOT) {
                if (opens()) {
                    readAsk();
                    emit(OPERATION_CODE + NOT);
                    open--;
                }
                return;
            }
            readSum();
            int asked = token;
            if (within(asked, LESS, UNLIKE) || asked == AT_MOST || asked == AT_LEAST) {
                nextToken();
                readSum();
                emit(OPERATION_CODE + asked);
            } else {
                fail(1);
            }
        }
    }

    /**
     * MOVES by KINDS alone. How CARS stand is one number: of every CAR, in 3 bits, what is below it,
     * another CAR or (from FLOOR on) the floor of a TRACK.
     */
    private static final class Shunter {
        static final int FLOOR = 5;
        /** 5 CARS in a row, 120 ways, cut into 3 TRACKS, 21 ways. */
        private static final int MOST_WAYS = 2520;
        private static final int CODES = 1 << 3 * MOST_CARS;

        private final int[] codes = new int[MOST_WAYS];
        /** From which place, 9 times, and by which MOVE. */
        private final int[] came = new int[MOST_WAYS];
        private final int[] known = new int[CODES / 32];
        private final int[] above = new int[FLOOR + TRACKS];
        private final int[] tops = new int[TRACKS];
        /** How many ways to stand the latest explore found; from which CARS and pairs it went out. */
        int found;
        private int exploredCars;
        private int exploredPairs;

        static int codeOf(Yard yard) {
            int code = 0;
            for (int track = 0; track < TRACKS; track++) {
                int below = FLOOR + track;
                for (int place = 0; place < yard.countOn(track); place++) {
                    int car = yard.carAt(track, place);
                    code |= below << (3 * car);
                    below = car;
                }
            }
            return code;
        }

        private static int belowOf(int code, int car) {
            return code >> (3 * car) & 7;
        }

        static int trackIn(int code, int car) {
            int below = belowOf(code, car);
            for (int n = 0; n < MOST_CARS && below < FLOOR; n++) {
                below = belowOf(code, below);
            }
            return below - FLOOR;
        }

        /**
         * Finds all ways to stand, nearest first. As MOVES are tried from the lowest on, the way that
         * comes first to each is the lowest of the shortest.
         */
        void explore(int start, int cars, int pairs) {
            if (found > 0 && codes[0] == start && exploredCars == cars && exploredPairs == pairs) {
                return;
            }
            exploredCars = cars;
            exploredPairs = pairs;
            Arrays.fill(known, 0);
            found = 0;
            note(start, 0);
            for (int place = 0; place < found && place < MOST_WAYS; place++) {
                findTops(codes[place], cars);
                for (int move = 0; move < MOVE_CODES; move++) {
                    int code = moved(codes[place], move, pairs);
                    if (code != NONE) {
                        note(code, MOVE_CODES * place + move);
                    }
                }
            }
        }

        private void note(int code, int how) {
            int word = code >> 5;
            int bit = 1 << (code & 31);
            if (word < 0 || word >= known.length || (known[word] & bit) != 0 || found >= MOST_WAYS) {
                return;
            }
            known[word] |= bit;
            codes[found] = code;
            came[found] = how;
            found++;
        }

        private void findTops(int code, int cars) {
            Arrays.fill(above, NONE);
            for (int car = 0; car < cars; car++) {
                above[belowOf(code, car)] = car;
            }
            for (int track = 0; track < TRACKS; track++) {
                int top = FLOOR + track;
                for (int n = 0; n < cars && above[top] != NONE; n++) {
                    top = above[top];
                }
                tops[track] = top;
            }
        }

        /** Of the code whose tops were found last; NONE if it can't be. */
        private int moved(int code, int move, int pairs) {
            int from = move / TRACKS;
            int to = move % TRACKS;
            int car = tops[from];
            int below = tops[to];
            if (from == to || car >= FLOOR) {
                return NONE;
            }
            if (below < FLOOR && (pairs >> (MOST_CARS * car + below) & 1) == 0) {
                return NONE;
            }
            return code & ~(7 << 3 * car) | below << 3 * car;
        }

        int codeBehind(int code, int cars, int move, int pairs) {
            findTops(code, cars);
            return moved(code, move, pairs);
        }

        int placeOfGoal(int code) {
            for (int place = 0; place < found; place++) {
                if (codes[place] == code) {
                    return place;
                }
            }
            return NONE;
        }

        int countMovesTo(int goal) {
            int moves = 0;
            for (int place = goal; place > 0 && moves < MOST_WAYS; place = came[place] / MOVE_CODES) {
                moves++;
            }
            return moves;
        }

        int moveOnWayTo(int goal, int movesFromEnd) {
            int place = goal;
            for (int n = 0; n < movesFromEnd && place > 0; n++) {
                place = came[place] / MOVE_CODES;
            }
            return place > 0 ? came[place] % MOVE_CODES : NO_SUCH;
        }
    }

    /** ORDERS: rows of CARS by their numbers. */
    private static final class Orders {
        /** How many rows there are of the CARS behind each place. */
        private static final int[] ROWS_BEHIND = {24, 6, 2, 1, 1};

        final int[] row = new int[MOST_CARS];

        static int countRows(int many) {
            int rows = 1;
            for (int factor = 2; factor <= many; factor++) {
                rows *= factor;
            }
            return rows;
        }

        /** The row of an ORDER (0 .. 119) without all CARS but these (bits): how many they are. */
        int fillRow(int order, int cars) {
            int rest = order;
            int left = ALL_CARS;
            int size = 0;
            for (int place = 0; place < MOST_CARS; place++) {
                int car = carBehind(left, rest / ROWS_BEHIND[place]);
                rest %= ROWS_BEHIND[place];
                left &= ~(1 << car);
                if ((cars >> car & 1) != 0) {
                    row[size] = car;
                    size++;
                }
            }
            return size;
        }

        /** Of these CARS (bits) the one with so many lower ones. */
        private static int carBehind(int cars, int lower) {
            int passed = 0;
            for (int car = 0; car < MOST_CARS; car++) {
                if ((cars >> car & 1) != 0) {
                    if (passed == lower) {
                        return car;
                    }
                    passed++;
                }
            }
            return 0;
        }

        boolean mayStand(int order, int cars, int pairs) {
            int many = fillRow(order, cars);
            for (int i = 1; i < many; i++) {
                if ((pairs >> (MOST_CARS * row[i - 1] + row[i]) & 1) == 0) {
                    return false;
                }
            }
            return true;
        }

        /** When all have rolled. */
        int timeOf(int order, Station station) {
            int many = fillRow(order, station.yard.toldCars());
            int lifted = 0;
            int rolled = 0;
            for (int i = 0; i < many; i++) {
                lifted += station.lifts[row[i]];
                rolled = Math.max(lifted, rolled) + station.rolls[row[i]];
            }
            return rolled;
        }
    }

    /** GROUPS of RAILWAYS (bits) that owe nothing beyond them. */
    private static final class Accounts {
        private static final int SETS = 1 << RAILWAYS;
        private final int[] sums = new int[SETS];
        /** Of each set: in how many GROUPS at most it can be settled; NONE if it can't be. */
        private final int[] most = new int[SETS];

        int mostGroups(int[] balances) {
            weighSets(balances);
            return most[SETS - 1];
        }

        int groupOf(int railway, int[] balances) {
            weighSets(balances);
            int left = SETS - 1;
            for (int n = 0; n < RAILWAYS && left != 0; n++) {
                int group = lowestGroup(left);
                if ((group >> railway & 1) != 0) {
                    return group;
                }
                left &= ~group;
            }
            return NONE;
        }

        private void weighSets(int[] balances) {
            for (int set = 1; set < SETS; set++) {
                sums[set] = sumOf(set, balances);
                most[set] = sums[set] == 0 ? mostOf(set) : NONE;
            }
        }

        private static int sumOf(int set, int[] balances) {
            int sum = 0;
            for (int railway = 0; railway < RAILWAYS; railway++) {
                if ((set >> railway & 1) != 0) {
                    sum += balances[railway];
                }
            }
            return sum;
        }

        /** Of a set that can be settled; the lowest RAILWAY is in one of the GROUPS. */
        private int mostOf(int set) {
            int best = 1;
            int lowest = set & -set;
            for (int group = 1; group < set; group++) {
                if (isGroupOf(set, group, lowest)) {
                    best = Math.max(best, 1 + most[set & ~group]);
                }
            }
            return best;
        }

        private boolean isGroupOf(int set, int group, int lowest) {
            return (group & ~set) == 0 && (group & lowest) != 0 && sums[group] == 0;
        }

        private int lowestGroup(int set) {
            int lowest = set & -set;
            for (int group = 1; group < set; group++) {
                if (isGroupOf(set, group, lowest) && 1 + most[set & ~group] == most[set]) {
                    return group;
                }
            }
            return set;
        }
    }
}
