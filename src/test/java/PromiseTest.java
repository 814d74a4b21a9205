/** Every promise by its number: ordinary inputs, edges and wrong inputs, worked out by hand. */
public final class PromiseTest {
    private static final int NONE = RailsGrowWider.NONE;
    private static final int LEAST = Integer.MIN_VALUE;
    private static final int MOST = Integer.MAX_VALUE;
    private static int wrong = 0;
    private static int asked = 0;
    private static int promise = 0;

    private static void due(String call, long got, long want) {
        asked++;
        if (got != want) {
            wrong++;
            System.out.println("promise " + promise + ": " + call + " answered " + got + ", due is " + want);
        }
    }

    private static void due(String call, boolean got, boolean want) {
        due(call, got ? 1 : 0, want ? 1 : 0);
    }

    private static void feedAll(RailsGrowWider x, String s) {
        x.end(0);
        for (int k = 0; k < s.length(); k += 20) {
            int[] five = new int[5];
            for (int b = 0; b < 20; b++) {
                five[b / 4] = five[b / 4] << 8 | (k + b < s.length() ? s.charAt(k + b) : 0);
            }
            x.feed(five[0], five[1], five[2], five[3], five[4]);
        }
        x.end(s.length());
    }

    private static int read(RailsGrowWider x, String s) {
        feedAll(x, s);
        return x.text();
    }

    private static void faulty(String s, int fault, int place) {
        RailsGrowWider x = new RailsGrowWider();
        due("text of " + s, read(x, s), fault == 0 ? 0 : NONE);
        due("fault(0) of " + s, x.fault(0), fault);
        due("fault(1) of " + s, x.fault(1), place);
    }

    /** CARS 0, 1, 2 of KINDS 0, 1, 2 and LOADS 3, 4, 5 on TRACK 0. */
    private static RailsGrowWider three() {
        RailsGrowWider x = new RailsGrowWider();
        x.car(0, 3);
        x.car(1, 4);
        x.car(2, 5);
        return x;
    }

    /** What moves says of a CAR 0 (KIND 2, LOAD 3) from TRACK 0 to 1, where a CAR of LOAD 7 stands. */
    private static int moves(String sum) {
        RailsGrowWider x = new RailsGrowWider();
        x.car(2, 3);
        x.car(1, 7);
        x.move(0, 1);
        int text = read(x, "moves " + sum + ";");
        if (text == NONE) {
            return 1000 * x.fault(0) + x.fault(1);
        }
        x.by(text);
        return x.law(0, 1);
    }

    private static void newObject() {
        RailsGrowWider x = new RailsGrowWider();
        int[] about = {0, 0, NONE, 0, 0, 0, 0, 0};
        for (int what = 0; what < 8; what++) {
            due("about(" + what + ")", x.about(what), about[what]);
        }
        int[] is = {0, 353, 1, 1, 0};
        for (int what = 0; what < 5; what++) {
            due("is(" + what + ")", x.is(what), is[what]);
        }
        due("book(-1, 0)", x.book(NONE, 0), 0);
        due("undo", x.undo(), NONE);
        due("shunts(-1)", x.shunts(NONE), 0);
        due("want is 0, shunts(0)", x.shunts(0), -2);
        // THE IMAGE is the empty station
        x.car(0, 1);
        x.forbid(0, 0, true);
        x.owe(0, 1, 5);
        x.hour(3);
        due("back", x.back(), 0);
        due("about(0)", x.about(0), 0);
        due("is(1)", x.is(1), 353);
        due("balance(0)", x.balance(0), 0);
        x.car(0, 1);
        x.car(0, 1);
        due("amiss", x.amiss(), 0);
    }

    private static void car() {
        RailsGrowWider x = new RailsGrowWider();
        for (int[] bad : new int[][] {{-1, 1}, {4, 1}, {0, 0}, {0, 10}, {LEAST, 5}, {MOST, 5}, {1, LEAST}, {1, MOST}}) {
            due("car(" + bad[0] + ", " + bad[1] + ")", x.car(bad[0], bad[1]), NONE);
        }
        due("about(0)", x.about(0), 0);
        due("car(0, 1)", x.car(0, 1), 0);
        due("car(3, 9)", x.car(3, 9), 1);
        due("move", x.move(0, 1), 1);
        due("car(1, 1)", x.car(1, 1), 2);
        due("of(2, 3)", x.of(2, 3), 1);
        due("of(2, 2)", x.of(2, 2), 0);
        due("of(2, 4)", x.of(2, 4), 0);
        due("of(2, 5)", x.of(2, 5), 0);
        // a new CAR comes beside whatever stands there, and is no STEP
        x.forbid(1, 1, true);
        due("car(1, 2)", x.car(1, 2), 3);
        due("amiss", x.amiss(), 1);
        due("about(3)", x.about(3), 1);
        due("car(2, 2)", x.car(2, 2), 4);
        due("the sixth", x.car(2, 2), NONE);
        due("about(0)", x.about(0), 5);
    }

    private static void forbid() {
        RailsGrowWider x = new RailsGrowWider();
        for (int[] bad : new int[][] {{-1, 0}, {4, 0}, {0, -1}, {0, 4}, {LEAST, 0}, {0, MOST}}) {
            due("forbid of others", x.forbid(bad[0], bad[1], true), false);
        }
        x.car(0, 1);
        x.car(3, 1);
        x.car(3, 1);
        due("amiss", x.amiss(), 0);
        due("forbid(3, 0)", x.forbid(3, 0, true), true);
        due("amiss", x.amiss(), 1);
        due("forbid alike", x.forbid(3, 3, true), true);
        due("amiss", x.amiss(), 2);
        due("may again, the other way round", x.forbid(0, 3, false), true);
        due("amiss", x.amiss(), 1);
        x.forbid(3, 3, false);
        due("amiss", x.amiss(), 0);
        due("no STEP", x.about(3), 0);
    }

    private static void times() {
        RailsGrowWider x = three();
        due("at first 1 each", x.crane(true), 4);
        for (int[] bad : new int[][] {{-1, 1, 1}, {3, 1, 1}, {0, 0, 1}, {0, 21, 1}, {0, 1, 0}, {0, 1, 21}, {MOST, 1, 1},
            {0, LEAST, 1}, {0, 1, MOST}}) {
            due("times of others", x.times(bad[0], bad[1], bad[2]), false);
        }
        due("crane", x.crane(true), 4);
        due("times(0, 1, 1)", x.times(0, 1, 1), true);
        due("times(2, 20, 20)", x.times(2, 20, 20), true);
        due("crane", x.crane(true), 42);
        due("times(2, 20, 1)", x.times(2, 20, 1), true);
        due("crane", x.crane(true), 23);
    }

    private static void feed() {
        RailsGrowWider x = new RailsGrowWider();
        // "moves 2;" and blanks, the highest byte first
        due("feed", x.feed(0x6d6f7665, 0x7320323b, 0x20202020, 0x0a0a0a0a, 0x20202020), 20);
        due("text", x.text(), 0);
        for (int k = 1; k <= 15; k++) {
            due("feed", x.feed(0, 0, 0, 0, 0), 20 * k);
        }
        due("feed beyond 300", x.feed(1, 1, 1, 1, 1), NONE);
        due("about(7)", x.about(7), 300);
        due("end(281)", x.end(281), 281);
        due("feed beyond 300", x.feed(1, 1, 1, 1, 1), NONE);
        due("about(7)", x.about(7), 281);
        due("end(280)", x.end(280), 280);
        due("feed", x.feed(1, 1, 1, 1, 1), 300);
        // bytes above 127 are none
        x.end(0);
        x.feed(0xff000000, 0, 0, 0, 0);
        due("text", x.text(), NONE);
        due("fault(0)", x.fault(0), 1);
        due("fault(1)", x.fault(1), 0);
    }

    private static void end() {
        RailsGrowWider x = new RailsGrowWider();
        due("end(0)", x.end(0), 0);
        due("end(1)", x.end(1), NONE);
        x.feed(0x6368616e, 0x67653b78, 0, 0, 0);
        due("end(21)", x.end(21), NONE);
        due("end(-1)", x.end(-1), NONE);
        due("end(LEAST)", x.end(LEAST), NONE);
        due("end(MOST)", x.end(MOST), NONE);
        due("about(7)", x.about(7), 20);
        due("end(20)", x.end(20), 20);
        due("end(7)", x.end(7), 7);
        due("end(8)", x.end(8), NONE);
        due("about(7)", x.about(7), 7);
        due("text change;", x.text(), 0);
        due("end(1)", x.end(1), NONE);
    }

    private static void text() {
        RailsGrowWider x = new RailsGrowWider();
        due("the empty text", x.text(), 0);
        due("with a fault", read(x, "moves ;"), NONE);
        due("the tape is empty then", x.about(7), 0);
        due("read", read(x, "change;"), 1);
        due("the tape is empty then", x.about(7), 0);
        due("about(1)", x.about(1), 2);
        due("read", read(x, "hour 60;"), 2);
        due("read", read(x, "moves 1;changes 1;"), 3);
        due("fault(0)", x.fault(0), 0);
        due("the fifth", read(x, "moves ;;"), NONE);
        due("the tape stays", x.about(7), 8);
        due("it isn't read", x.fault(0), 0);
        due("about(1)", x.about(1), 4);
        RailsGrowWider y = three();
        for (int k = 0; k < 4; k++) {
            due("a long one", read(y, "moves " + "1+".repeat(50 + k) + "1;"), k);
            due("by", y.by(k), true);
            due("law", y.law(0, 1), 51 + k);
        }
        grammar();
        meaning();
    }

    private static void grammar() {
        faulty("", 0, NONE);
        faulty(" \n ", 0, NONE);
        faulty("\t", 1, 0);
        faulty("car3load9;forbid 0by 3;move2to 0;change;lend 9of1;hour 60;", 0, NONE);
        faulty("car 0 load 1;car 0 load 1", 1, 25);
        faulty("car load 1;", 1, 4);
        faulty("car 0 load ;", 1, 11);
        faulty("car 0 by 1;", 1, 6);
        faulty("car 00000003 load 09;", 0, NONE);
        faulty("car 99999999999999999999 load 1;", 2, 4);
        faulty("forbid 0 to 1;", 1, 9);
        faulty("move 0 by 1;", 1, 7);
        faulty("move 1 to 1;", 0, NONE);
        faulty("lend 1 to 1;", 1, 7);
        faulty("hour 0;", 2, 5);
        faulty("hour 1;", 0, NONE);
        faulty("hour 61;", 2, 5);
        faulty("car 4 load 1;", 2, 4);
        faulty("car 0 load 0;", 2, 11);
        faulty("car 0 load 10;", 2, 11);
        faulty("forbid 3 by 0;", 0, NONE);
        faulty("forbid 4 by 0;", 2, 7);
        faulty("forbid 0 by 4;", 2, 12);
        faulty("move 0 to 2;", 0, NONE);
        faulty("move 3 to 0;", 2, 5);
        faulty("move 0 to 3;", 2, 10);
        faulty("lend 0 of 0;", 2, 5);
        faulty("lend 10 of 0;", 2, 5);
        faulty("lend 1 of 2;", 2, 10);
        faulty("hour;", 1, 4);
        faulty("Change;", 1, 0);
        faulty("changed;", 1, 0);
        faulty("chang", 1, 0);
        faulty("change;;", 1, 7);
        faulty("change 10000;", 1, 7);
        faulty("load 1;", 1, 0);
        faulty("12;", 1, 0);
        faulty("moves 9999;", 0, NONE);
        faulty("moves 10000;", 2, 6);
        faulty("moves 1 10000;", 1, 8);
        faulty("moves", 1, 5);
        faulty("moves 1  ", 1, 9);
        faulty("moves then;", 1, 6);
        faulty("moves 1+;", 1, 8);
        faulty("moves +1;", 1, 6);
        faulty("moves 1 2;", 1, 8);
        faulty("moves (1;", 1, 8);
        faulty("moves 1);", 1, 7);
        faulty("moves x;", 1, 6);
        faulty("moves not 1;", 1, 6);
        faulty("moves if 1 < 2 then 3 end;", 1, 22);
        faulty("moves if 1 < 2 then 3 else 4;", 1, 28);
        faulty("moves if (1 < 2) then 3 else 4 end;", 1, 12);
        faulty("moves if 1 < 2 < 3 then 3 else 4 end;", 1, 15);
        faulty("moves if 1 < = 2 then 3 else 4 end;", 1, 13);
        faulty("moves if 1 <= 2 and 3 >= 4 or not 5 # 6 then 3 else 4 end;", 0, NONE);
        faulty("moves if 1 = 2 or then 3 else 4 end;", 1, 18);
        faulty("moves if not then 3 else 4 end;", 1, 13);
        faulty("moves if 1 then 2 else 3 end;", 1, 11);
        faulty("moves if 1;", 1, 10);
        faulty("moves if " + "not 1=1 and ".repeat(12) + "1=1 then 2 else 3 end;", 0, NONE);
        faulty("(".repeat(300), 1, 0);
        faulty("moves " + "1+".repeat(146) + "1;", 0, NONE);
        faulty("moves broad;", 5, 6);
        faulty("changes to;", 5, 8);
        faulty("changes hour+number+load+kind+wide+worn+narrow+broad;", 0, NONE);
        faulty("moves hour+number+load+kind+wide+worn+from+to+many;", 0, NONE);
        faulty("moves 1;change;moves", 4, 15);
        faulty("changes 1;moves 1;changes 1;", 4, 18);
        faulty("moves ((((((((1))))))))+((((((((1))))))));", 0, NONE);
        faulty("moves --------1;", 0, NONE);
        faulty("moves ---------1;", 3, 14);
        faulty("moves 1-------- -1;", 0, NONE);
        faulty("moves 1---------1;", 0, NONE);
        faulty("moves 1----------1;", 3, 16);
        faulty("moves odd odd odd odd odd odd odd odd 1;", 0, NONE);
        faulty("moves odd odd odd odd odd odd odd odd odd 1;", 3, 38);
        faulty("moves odd(-top(odd(-", 1, 20);
        faulty("moves odd(-top(odd(-top(", 3, 20);
        faulty("moves odd(-top(odd(-if 1=1 then", 3, 20);
        faulty("moves if not not not not not not not 1=1 then 1 else 1 end;", 0, NONE);
        faulty("moves if not not not not not not not not 1=1 then 1 else 1 end;", 3, 37);
        faulty("moves if not not not not not not not (1)=1 then 1 else 1 end;", 3, 37);
        faulty("moves if 1=1 then ((((((( 1 ))))))) else ((((((((1)))))))) end;", 3, 48);
        faulty("moves ((((((((and", 1, 14);
        String twentyFour = "change;".repeat(24);
        faulty(twentyFour, 0, NONE);
        faulty(twentyFour + " hour", 6, 169);
        faulty(twentyFour + "then", 1, 168);
        faulty("moves 1;" + "change;".repeat(23) + "moves 1;", 4, 169);
        faulty("moves 1;" + "change;".repeat(23) + "changes 1;", 6, 169);
    }

    private static void meaning() {
        due("from the left", moves("10-3-2"), 5);
        due("products first", moves("2+3*4"), 14);
        due("from the left", moves("20/3*3"), 18);
        due("cut towards 0", moves("-7/2"), -3);
        due("cut towards 0", moves("7/-2"), -3);
        due("by 0", moves("5/0+4"), 4);
        due("minus of one ONE", moves("-2*3+10"), 4);
        due("odd of one ONE", moves("odd 3+1"), 2);
        due("odd of less than 0", moves("odd -3"), 1);
        due("even", moves("odd 4"), 0);
        due("top of 0", moves("top 0"), 3);
        due("top of 1", moves("top from+top to*10"), 73);
        due("top without a CAR", moves("top 2+1"), 1);
        due("top of others", moves("top 3+top -1+top 9999+2"), 2);
        due("top of a SUM", moves("top(0+1)"), 7);
        due("names", moves("number+load*2+kind*10+wide+worn"), 26);
        due("from, to, many", moves("from*9+to*3+many"), 4);
        due("above 99", moves("100"), 99);
        due("below -99", moves("-100"), -99);
        due("above 1000000", moves("9999*9999/1000-999"), 1);
        due("below -1000000", moves("-9999*9999/1000+999"), -1);
        due("at each step", moves("9999*9999*9999-9999*100-99"), 1);
        due("at each sum", moves("9999*100+9999-9999*100-98"), 2);
        due("(SUM)", moves("(1+2)*3"), 9);
        due("if so", moves("if load=3 then 5 else 6 end"), 5);
        due("if not so", moves("if load#3 then 5 else 6 end"), 6);
        due("<", moves("if 1<1 then 1 else 2 end+if 1<2 then 10 else 20 end"), 12);
        due("<=", moves("if 1<=1 then 1 else 2 end+if 2<=1 then 10 else 20 end"), 21);
        due(">", moves("if 1>1 then 1 else 2 end+if 2>1 then 10 else 20 end"), 12);
        due(">=", moves("if 1>=1 then 1 else 2 end+if 1>=2 then 10 else 20 end"), 21);
        due("=", moves("if 1=1 then 1 else 2 end+if 1=2 then 10 else 20 end"), 21);
        due("#", moves("if 1#1 then 1 else 2 end+if 1#2 then 10 else 20 end"), 12);
        due("and first", moves("if 1=1 or 1=1 and 1=2 then 1 else 2 end"), 1);
        due("and first", moves("if 1=2 and 1=1 or 1=1 then 1 else 2 end"), 1);
        due("not of one ASK", moves("if not 1=2 and 1=1 then 1 else 2 end"), 1);
        due("not of one ASK", moves("if not 1=1 or 1=1 then 1 else 2 end"), 1);
        due("not not", moves("if not not 1=1 then 1 else 2 end"), 1);
        due("and", moves("if 1=2 and 1=1 then 1 else 2 end+if 1=1 and 1=2 then 10 else 20 end"), 22);
        due("or", moves("if 1=2 or 1=1 then 1 else 2 end+if 1=2 or 1=2 then 10 else 20 end"), 21);
        due("not", moves("if not 1=1 then 1 else 2 end+if not 1=2 then 10 else 20 end"), 12);
        due("an if asked", moves("if if 1=1 then 2 else 3 end=2 then 7 else 8 end*2"), 14);
    }

    private static void fault() {
        RailsGrowWider x = new RailsGrowWider();
        due("ahead of any", x.fault(0), NONE);
        due("ahead of any", x.fault(1), NONE);
        due("ahead of any", x.fault(2), NONE);
        read(x, "hour 99;");
        due("fault(0)", x.fault(0), 2);
        due("fault(1)", x.fault(1), 5);
        due("fault(2)", x.fault(2), NONE);
        due("fault(-1)", x.fault(-1), NONE);
        due("fault(MOST)", x.fault(MOST), NONE);
        x.image();
        read(x, "hour 9;");
        due("without", x.fault(0), 0);
        due("without", x.fault(1), NONE);
        x.back();
        due("it is not of the image", x.fault(0), 0);
    }

    private static void by() {
        RailsGrowWider x = three();
        due("by(0)", x.by(0), false);
        due("by(-1)", x.by(NONE), true);
        read(x, "moves 0;");
        read(x, "changes 5;");
        due("law", x.law(0, 1), 1);
        due("by(0)", x.by(0), true);
        due("about(2)", x.about(2), 0);
        due("law", x.law(0, 1), 0);
        due("without changes", x.law(0, 0), 1);
        due("by(2)", x.by(2), false);
        due("by(-2)", x.by(-2), false);
        due("by(MOST)", x.by(MOST), false);
        due("about(2)", x.about(2), 0);
        due("by(1)", x.by(1), true);
        due("without moves", x.law(0, 1), 1);
        due("law", x.law(0, 0), 5);
        due("by(-1)", x.by(NONE), true);
        due("law", x.law(0, 0), 1);
        due("no STEP", x.about(3), 0);
    }

    private static void move() {
        RailsGrowWider x = three();
        for (int[] bad : new int[][] {{-1, 0}, {3, 0}, {0, -1}, {0, 3}, {0, 0}, {1, 1}, {MOST, 0}, {0, LEAST}}) {
            due("move(" + bad[0] + ", " + bad[1] + ")", x.move(bad[0], bad[1]), NONE);
        }
        due("from an empty one", x.move(1, 0), NONE);
        due("narrow feet to wide", x.move(0, 2), NONE);
        due("nothing done", x.about(3) + x.book(NONE, 0), 0);
        due("move", x.move(0, 1), 2);
        x.forbid(1, 2, true);
        due("beside one it may not", x.move(0, 1), NONE);
        due("back, beside one it may not", x.move(1, 0), NONE);
        x.forbid(1, 2, false);
        due("move", x.move(0, 1), 1);
        due("track(1, 0)", x.track(1, 0), 2);
        due("track(1, 1)", x.track(1, 1), 1);
        due("change", x.change(), 1);
        due("wide feet to narrow", x.move(1, 0), NONE);
        due("wide feet to wide", x.move(1, 2), 1);
        due("and back to the pit", x.move(2, 1), 1);
        // a law of 0 or less
        read(x, "moves 1-from;");
        x.by(0);
        due("moves says 0", x.move(1, 2), NONE);
        due("moves says 1", x.move(0, 1), 0);
        due("book", x.book(NONE, 0), 6);
        due("book(5, 1)", x.book(5, 1), 0);
        due("book(5, 2)", x.book(5, 2), 0);
        due("book(5, 3)", x.book(5, 3), 1);
        due("about(3)", x.about(3), 6);
        allFive();
    }

    private static void allFive() {
        RailsGrowWider x = new RailsGrowWider();
        for (int k = 0; k < 5; k++) {
            x.car(0, 1 + k);
        }
        x.lend(1, 8);
        for (int k = 4; k >= 0; k--) {
            due("move", x.move(0, 1), k);
            due("change", x.change(), k);
            due("move", x.move(1, 2), k);
        }
        for (int k = 0; k < 5; k++) {
            due("track(2, " + k + ")", x.track(2, k), 4 - k);
            due("of(" + k + ", 3)", x.of(k, 3), 4 - k);
        }
        due("is(4)", x.is(4), 31);
        due("book", x.book(NONE, 0), 15);
        due("book(0, 1)", x.book(0, 1), 4);
        due("it is so", x.want(119) ? x.shunts(NONE) : NONE, 0);
        for (int k = 14; k >= 0; k--) {
            due("undo", x.undo(), k + 1);
        }
        due("track(0, 4)", x.track(0, 4), 4);
        due("is(4)", x.is(4), 0);
    }

    private static void change() {
        RailsGrowWider x = three();
        due("no CAR on the pit", x.change(), NONE);
        x.move(0, 1);
        x.hour(3);
        // 353: 3 breaks the wide one; 29644 mod 3 = 1; 8254: nothing; 12795 mod 3 = 0; 23443: breaks none; 8069 mod 3 = 2
        due("of(2, 5)", x.of(2, 5), 1);
        due("is(3)", x.is(3), 0);
        due("no wide WHEELS", x.change(), NONE);
        x.lend(1, 1);
        x.lend(0, 8);
        due("is(2)", x.is(2), 9);
        due("change", x.change(), 2);
        due("9 at most", x.is(2), 9);
        due("one less", x.is(3), 0);
        due("of(2, 4)", x.of(2, 4), 1);
        due("is(4)", x.is(4), 4);
        due("change", x.change(), 2);
        due("one less", x.is(2), 8);
        due("one more", x.is(3), 1);
        due("of(2, 4)", x.of(2, 4), 0);
        int last = x.book(NONE, 0) - 1;
        due("book", x.book(last, 1), 2);
        due("book", x.book(last, 2), 1);
        due("book", x.book(last, 3), 0);
        due("book", x.book(last - 1, 3), 1);
        due("book", x.book(last, 0), 3);
        read(x, "changes broad-1;");
        x.by(0);
        due("changes says 0", x.change(), NONE);
        x.lend(1, 1);
        due("changes says 1", x.change(), 2);
        // WORN no more
        RailsGrowWider y = new RailsGrowWider();
        y.car(0, 1);
        y.move(0, 1);
        y.lend(1, 5);
        y.hour(2);
        due("worn", y.of(0, 5), 2);
        due("change", y.change(), 0);
        due("worn", y.of(0, 5), 0);
    }

    private static void lend() {
        RailsGrowWider x = new RailsGrowWider();
        for (int[] bad : new int[][] {{-1, 1}, {2, 1}, {0, 0}, {0, 10}, {0, -10}, {0, 9}, {0, -2}, {1, 9}, {1, -2},
            {0, MOST}, {0, LEAST}, {MOST, 1}}) {
            due("lend(" + bad[0] + ", " + bad[1] + ")", x.lend(bad[0], bad[1]), false);
        }
        due("about(3)", x.about(3), 0);
        due("lend(0, 8)", x.lend(0, 8), true);
        due("is(2)", x.is(2), 9);
        due("is(3)", x.is(3), 1);
        due("lend(0, 1)", x.lend(0, 1), false);
        due("lend(0, -9)", x.lend(0, -9), true);
        due("is(2)", x.is(2), 0);
        due("lend(1, -1)", x.lend(1, -1), true);
        due("is(3)", x.is(3), 0);
        due("lend(1, 9)", x.lend(1, 9), true);
        due("is(3)", x.is(3), 9);
        due("steps", x.about(3), 4);
        due("not written down", x.book(NONE, 0), 0);
    }

    private static void hour() {
        RailsGrowWider x = new RailsGrowWider();
        for (int bad : new int[] {0, -1, 61, MOST, LEAST}) {
            due("hour(" + bad + ")", x.hour(bad), NONE);
        }
        // without CARS one draw each: 353, 29644, 8254, 12795, 23443, 8069
        due("hour(1)", x.hour(1), 1);
        due("is(1)", x.is(1), 29644);
        due("is(0)", x.is(0), 1);
        due("is(3)", x.is(3), 0);
        due("book: hour", x.book(0, 0), 0);
        due("book: no car", x.book(0, 1), NONE);
        due("book: broken", x.book(0, 2), 2);
        due("book: wide", x.book(0, 3), 1);
        due("hour(3)", x.hour(3), 0);
        due("is(1)", x.is(1), 23443);
        due("23443 breaks none: there is none", x.hour(1), 0);
        due("is(1)", x.is(1), 8069);
        due("each a STEP", x.about(3), 5);
        // with one CAR: 353 breaks, 29644 wears; 8254; 12795 wears
        RailsGrowWider y = new RailsGrowWider();
        y.car(0, 1);
        due("hour(2)", y.hour(2), 1);
        due("is(1)", y.is(1), 23443);
        due("worn", y.of(0, 5), 2);
        y.hour(60);
        due("9 at most", y.of(0, 5), 9);
        due("steps", y.about(3), 30);
        hourDraws();
        hourBounds();
    }

    /** Seeds whose one year moves nothing and leaves an X that ends in 0, 1, 2. */
    private static void hourDraws() {
        RailsGrowWider x = new RailsGrowWider();
        x.years(37, 1);
        due("is(1)", x.is(1), 12860);
        due("hour(1)", x.hour(1), 0);
        due("one more narrow", x.is(2), 2);
        due("is(1)", x.is(1), 1196);
        x.undo();
        x.lend(0, 8);
        x.hour(1);
        due("9 at most", x.is(2), 9);
        x.years(7, 1);
        due("is(1)", x.is(1), 7291);
        due("hour(1)", x.hour(1), 0);
        due("one more wide", x.is(3), 2);
        x.undo();
        x.lend(1, 8);
        x.hour(1);
        due("9 at most", x.is(3), 9);
        x.years(40, 1);
        due("is(1)", x.is(1), 16502);
        due("hour(1)", x.hour(1), 1);
        due("a narrow one breaks", x.is(2), 8);
        due("is(1)", x.is(1), 21469);
        due("book", x.book(0, 3), 0);
        due("book", x.book(0, 0), 2);
        x.undo();
        x.lend(0, -9);
        due("there is none", x.hour(1), 0);
        due("is(1)", x.is(1), 21469);
        due("nothing written down", x.book(NONE, 0), 0);
    }

    private static void hourBounds() {
        RailsGrowWider x = new RailsGrowWider();
        for (int k = 0; k < 166; k++) {
            x.hour(60);
        }
        due("is(0)", x.is(0), 9960);
        due("beyond 9999", x.hour(40), NONE);
        due("nothing is done", x.is(0), 9960);
        due("to 9999", x.hour(39) >= 0, true);
        due("is(0)", x.is(0), 9999);
        int drawn = x.is(1);
        due("none can pass", x.hour(1), NONE);
        due("is(1)", x.is(1), drawn);
        int narrow = x.is(2);
        due("foretold: none pass", x.foretold(60, 0), narrow);
        due("years at 9999", x.years(0, 1), 9999);
        due("no HOUR passed, one X drawn", x.is(1), 29644);
        x.undo();
        x.undo();
        due("is(0)", x.is(0), 9998);
        read(x, "hour 1;");
        due("all pass", x.played(0), NONE);
        due("is(0)", x.is(0), 9999);
        due("none can pass", x.played(0), 0);
        x.undo();
        due("is(0)", x.is(0), 9998);
        read(x, "lend 1 of 0;hour 2;change;");
        x.lend(0, -x.is(2) == 0 ? 1 : -x.is(2));
        due("those that can pass do", x.played(1), 1);
        due("is(0)", x.is(0), 9999);
    }

    private static void played() {
        RailsGrowWider x = new RailsGrowWider();
        due("played(0)", x.played(0), -2);
        due("played(-1)", x.played(NONE), -2);
        read(x, "car 1 load 2;moves 0;car 2 load 3;forbid 2 by 2;lend 3 of 1;move 0 to 1;change;hour 2;");
        read(x, "move 0 to 1;");
        read(x, "");
        due("played(3)", x.played(3), -2);
        due("played(MOST)", x.played(MOST), -2);
        due("an empty one", x.played(2), NONE);
        due("all is done", x.played(0), NONE);
        due("about(0)", x.about(0), 2);
        due("of(1, 0)", x.of(1, 0), 2);
        due("of(1, 1)", x.of(1, 1), 3);
        due("wide", x.of(1, 4), 1);
        due("is(0)", x.is(0), 2);
        due("lend 3, change 1, broken 1", x.is(3), 2);
        due("steps", x.about(3), 5);
        due("its own laws don't rule", x.about(2), NONE);
        due("again: two of KIND 2 may not stand there", x.played(0), 5);
        due("about(0)", x.about(0), 4);
        due("is(3)", x.is(3), 5);
        due("what was done stays", x.about(3), 6);
        due("CLAUSE 0", x.played(1), 0);
        x.by(0);
        x.forbid(2, 2, false);
        due("by the law that rules", x.played(1), 0);
        x.by(NONE);
        due("by none", x.played(1), NONE);
        due("no room for a sixth CAR", x.played(0), 2);
        due("about(0)", x.about(0), 5);
        due("lend beyond 9", lendTooMuch(), 1);
        x.forbid(2, 2, true);
        due("amiss", x.amiss(), 1);
    }

    private static int lendTooMuch() {
        RailsGrowWider x = new RailsGrowWider();
        read(x, "lend 8 of 0;lend 1 of 0;");
        return x.played(0);
    }

    private static void years() {
        RailsGrowWider x = new RailsGrowWider();
        for (int[] bad : new int[][] {{-1, 1}, {10000, 1}, {0, 0}, {0, 41}, {MOST, 1}, {LEAST, 1}, {0, MOST}, {0, -1}}) {
            due("years of others", x.years(bad[0], bad[1]), NONE);
        }
        due("about(3)", x.about(3), 0);
        due("is(1)", x.is(1), 353);
        // x 353 mod 6 is 5: an HOUR; X 29644 draws 4; then 8254 (mod 6 is 4): an HOUR; 12795 draws 5
        due("years(0, 2)", x.years(0, 2), 2);
        due("is(1)", x.is(1), 23443);
        due("one STEP", x.about(3), 1);
        // 23443 mod 6 is 1: MOVED; but X is anew by the SEED
        due("years(0, 1)", x.years(0, 1), 3);
        due("is(1)", x.is(1), 8254);
        due("years(9999, 40)", x.years(9999, 40) > 3, true);
        due("undo", x.undo(), 2);
        due("is(0)", x.is(0), 3);
        yearsMoved();
    }

    /** Seeds whose first x is of each sort. */
    private static void yearsMoved() {
        RailsGrowWider x = three();
        // 2 * 4 + 353 = 361: mod 6 is 1, 60 mod 3 is 0, mod 4 is 1: from 0 to 1
        due("years(4, 1)", x.years(4, 1), 0);
        due("of(2, 2)", x.of(2, 2), 1);
        due("written down", x.book(0, 3), 1);
        // 2 * 3 + 353 = 359 is 5, 363 is 3 (60 even: narrow), 369 is 3 (61 odd: wide), 365 is 5
        x.years(5, 1);
        due("one more narrow", x.is(2), 2);
        x.years(8, 1);
        due("one more wide", x.is(3), 2);
        for (int k = 0; k < 9; k++) {
            x.years(5, 1);
            x.years(8, 1);
        }
        due("not beyond 9", x.is(2), 9);
        due("not beyond 9", x.is(3), 9);
        // x is odd at first always: 2 needs a second x; seed 1: 355 mod 6 is 1, 59 mod 3 is 2, 355 mod 4 is 3: 2 to 1
        due("nothing on 2", x.years(1, 1), 0);
        due("of(2, 2)", x.of(2, 2), 1);
        // 367 mod 6 is 1, 61 mod 3 is 1, 367 mod 4 is 3: from 1 to 0
        due("years(7, 1)", x.years(7, 1), 0);
        due("of(2, 2)", x.of(2, 2), 0);
        due("book", x.book(1, 3), 0);
        // 433 mod 6 is 1, 72 mod 3 is 0, 433 mod 4 is 1: from 0 to 1; 16502 mod 6 is 2: CHANGED
        x.lend(0, -8);
        due("years(40, 2)", x.years(40, 2), 0);
        due("of(2, 2)", x.of(2, 2), 1);
        due("wide", x.of(2, 4), 1);
        due("is(1)", x.is(1), 21469);
        due("is(2)", x.is(2), 2);
        due("is(3)", x.is(3), 8);
        due("both in one STEP", x.undo() + x.of(2, 2) + x.of(2, 4) + x.book(NONE, 0), x.about(3) + 2);
        // by the law that rules
        read(x, "moves 0;");
        x.by(0);
        x.years(40, 2);
        due("nothing moved", x.of(2, 2), 0);
    }

    private static void undo() {
        RailsGrowWider x = three();
        due("undo", x.undo(), NONE);
        x.move(0, 1);
        x.change();
        x.lend(0, 3);
        x.hour(2);
        x.years(77, 40);
        due("about(3)", x.about(3), 6);
        due("years", x.undo(), 5);
        due("is(0)", x.is(0), 2);
        due("an hour", x.undo(), 4);
        due("is(0)", x.is(0), 1);
        due("is(1)", x.is(1), 8254);
        due("of(1, 5)", x.of(1, 5), 1);
        due("an hour", x.undo(), 3);
        due("of(1, 5)", x.of(1, 5), 0);
        due("is(1)", x.is(1), 353);
        due("lent", x.undo(), 2);
        due("is(2)", x.is(2), 2);
        due("book", x.book(NONE, 0), 2);
        due("changed", x.undo(), 1);
        due("is(2)", x.is(2), 1);
        due("is(3)", x.is(3), 1);
        due("is(4)", x.is(4), 0);
        due("book", x.book(NONE, 0), 1);
        due("moved", x.undo(), 0);
        due("track(0, 2)", x.track(0, 2), 2);
        due("book", x.book(NONE, 0), 0);
        due("undo", x.undo(), NONE);
        // what is told stays, and CARS told since are uppermost on 0
        x.move(0, 1);
        x.car(3, 9);
        x.car(3, 8);
        x.forbid(3, 3, true);
        x.want(7);
        x.move(0, 1);
        x.hour(1);
        due("undo", x.undo(), 2);
        due("undo", x.undo(), 1);
        due("track(0, -1)", x.track(0, NONE), 4);
        due("track(0, 3)", x.track(0, 3), 4);
        due("undo", x.undo(), 0);
        due("track(0, -1)", x.track(0, NONE), 5);
        due("track(0, 2)", x.track(0, 2), 2);
        due("track(0, 4)", x.track(0, 4), 4);
        due("undo", x.undo(), NONE);
    }

    private static void undoTold() {
        RailsGrowWider x = new RailsGrowWider();
        x.car(0, 1);
        x.move(0, 1);
        x.car(1, 2);
        x.car(2, 3);
        due("undo", x.undo(), 0);
        due("track(0, -1)", x.track(0, NONE), 3);
        for (int c = 0; c < 3; c++) {
            due("track(0, " + c + ")", x.track(0, c), c);
        }
        due("kinds stay", x.of(2, 0), 2);
        // the latest 30, each with the BOOK ahead of it
        RailsGrowWider y = new RailsGrowWider();
        y.car(0, 1);
        for (int k = 0; k < 20; k++) {
            y.move(0, 1);
            y.move(1, 0);
        }
        due("about(3)", y.about(3), 30);
        due("book", y.book(NONE, 0), 30);
        for (int k = 29; k >= 0; k--) {
            due("undo", y.undo(), k);
        }
        due("undo", y.undo(), NONE);
        due("book", y.book(NONE, 0), 10);
        due("of(0, 2)", y.of(0, 2), 0);
    }

    private static void of() {
        RailsGrowWider x = three();
        x.move(0, 1);
        x.change();
        x.hour(1);
        int[][] due = {{0, 3, 0, 0, 0, 0}, {1, 4, 0, 1, 0, 1}, {2, 5, 1, 0, 1, 0}};
        for (int car = 0; car < 3; car++) {
            for (int what = 0; what < 6; what++) {
                due("of(" + car + ", " + what + ")", x.of(car, what), due[car][what]);
            }
        }
        for (int[] bad : new int[][] {{-1, 0}, {3, 0}, {0, -1}, {0, 6}, {MOST, 0}, {LEAST, 0}, {0, MOST}, {0, LEAST}}) {
            due("of others", x.of(bad[0], bad[1]), NONE);
        }
    }

    private static void track() {
        RailsGrowWider x = three();
        x.move(0, 1);
        due("track(0, -1)", x.track(0, NONE), 2);
        due("track(1, -1)", x.track(1, NONE), 1);
        due("track(2, -1)", x.track(2, NONE), 0);
        due("track(0, 0)", x.track(0, 0), 0);
        due("track(0, 1)", x.track(0, 1), 1);
        due("track(1, 0)", x.track(1, 0), 2);
        for (int[] bad : new int[][] {{0, 2}, {0, -2}, {2, 0}, {-1, 0}, {3, 0}, {-1, -1}, {3, -1}, {0, MOST}, {0, LEAST}, {MOST, 0}}) {
            due("track(" + bad[0] + ", " + bad[1] + ")", x.track(bad[0], bad[1]), -2);
        }
    }

    private static void law() {
        RailsGrowWider x = three();
        due("without a TEXT", x.law(0, 1), 1);
        due("without a TEXT", x.law(0, 0), 1);
        x.move(0, 1);
        x.move(0, 1);
        read(x, "moves load*10+from*3+to+many*100/50;changes load*10+narrow+broad*2+hour;");
        x.by(0);
        due("law(0, 1): 30 + 1 + 4", x.law(0, 1), 35);
        due("law(1, 0): 40 + 3 + 0 + 2", x.law(1, 0), 45);
        due("law(1, 2): 40 + 3 + 2 + 0", x.law(1, 2), 45);
        due("law(0, 0): 30 + 1 + 2", x.law(0, 0), 33);
        due("law(1, 1)", x.law(1, 1), 43);
        x.lend(1, 3);
        x.hour(1);
        due("law(1, 1): 40 + 1 + 2 * 3 + 1", x.law(1, 1), 48);
        // each HOUR wears one: 1, 0, 2
        x.hour(2);
        x.change();
        x.hour(1);
        read(x, "moves wide*50+worn*10+number;changes wide*50+worn*10+number;");
        x.by(1);
        due("narrow feet", x.law(0, 1), 10 * x.of(0, 5));
        due("worn", x.of(0, 5) > 0, true);
        due("wide feet", x.law(1, 2), 50 + 10 * x.of(1, 5) + 1);
        due("wide feet", x.law(1, 1), 50 + 10 * x.of(1, 5) + 1);
        for (int[] bad : new int[][] {{2, 0}, {2, 2}, {-1, 0}, {3, 0}, {0, -1}, {0, 3}, {MOST, MOST}, {LEAST, 0}}) {
            due("law(" + bad[0] + ", " + bad[1] + ")", x.law(bad[0], bad[1]), -100);
        }
    }

    private static void is() {
        RailsGrowWider x = three();
        x.lend(0, 4);
        x.lend(1, 6);
        x.move(0, 1);
        x.change();
        x.move(0, 1);
        x.move(0, 1);
        x.change();
        due("is(2)", x.is(2), 7);
        due("is(3)", x.is(3), 5);
        due("is(4)", x.is(4), 5);
        x.hour(1);
        due("is(0)", x.is(0), 1);
        due("is(1)", x.is(1), 8254);
        for (int bad : new int[] {-1, 5, MOST, LEAST}) {
            due("is(" + bad + ")", x.is(bad), -2);
        }
    }

    private static void book() {
        RailsGrowWider x = three();
        x.move(0, 1);
        x.change();
        x.lend(1, 2);
        x.hour(1);
        x.move(1, 2);
        int[][] due = {{0, 2, 0, 1}, {0, 2, 1, 1}, {0, NONE, 2, 1}, {1, 2, 0, 2}};
        due("book(-1, 0)", x.book(NONE, 0), 4);
        due("book(-1, 9)", x.book(NONE, 9), 4);
        for (int i = 0; i < 4; i++) {
            for (int what = 0; what < 4; what++) {
                due("book(" + i + ", " + what + ")", x.book(i, what), due[i][what]);
            }
        }
        for (int[] bad : new int[][] {{4, 0}, {-2, 0}, {0, -1}, {0, 4}, {MOST, 0}, {LEAST, 0}, {0, MOST}, {0, LEAST}}) {
            due("book(" + bad[0] + ", " + bad[1] + ")", x.book(bad[0], bad[1]), -2);
        }
        RailsGrowWider y = new RailsGrowWider();
        y.car(0, 1);
        y.lend(1, 1);
        y.move(0, 1);
        y.change();
        for (int k = 0; k < 15; k++) {
            y.move(1, 2);
            y.move(2, 1);
        }
        due("the latest 30", y.book(NONE, 0), 30);
        due("the eldest", y.book(0, 3), 2);
        due("the latest", y.book(29, 3), 1);
        y.change();
        due("the latest 30", y.book(NONE, 0), 30);
        due("the eldest", y.book(0, 3), 1);
        due("the latest", y.book(29, 2), 1);
        due("the one ahead", y.book(28, 3), 1);
        due("and the one ahead of it", y.book(27, 3), 2);
        due("ledger", y.ledger(1), 1);
    }

    private static void foretold() {
        RailsGrowWider x = three();
        due("foretold(1, 0)", x.foretold(1, 0), 1);
        due("foretold(1, 1)", x.foretold(1, 1), 0);
        due("foretold(1, 2)", x.foretold(1, 2), 1);
        due("foretold(60, 2)", x.foretold(60, 2) > 9, true);
        due("nothing is done", x.is(0) + x.about(3) + x.book(NONE, 0) + x.is(1), 353);
        for (int[] bad : new int[][] {{0, 0}, {61, 0}, {1, -1}, {1, 3}, {MOST, 0}, {LEAST, 0}, {1, MOST}, {-1, 1}}) {
            due("foretold of others", x.foretold(bad[0], bad[1]), NONE);
        }
        for (int n = 1; n <= 60; n += 7) {
            RailsGrowWider y = three();
            y.hour(n);
            due("narrow", x.foretold(n, 0), y.is(2));
            due("wide", x.foretold(n, 1), y.is(3));
            due("worn", x.foretold(n, 2), y.of(0, 5) + y.of(1, 5) + y.of(2, 5));
        }
    }

    private static void want() {
        RailsGrowWider x = three();
        due("want(-1)", x.want(-1), false);
        due("want(120)", x.want(120), false);
        due("want(MOST)", x.want(MOST), false);
        due("shunts", x.shunts(NONE), 5);
        due("want(119)", x.want(119), true);
        due("uppermost first: by 3", x.shunts(NONE), 3);
        due("want(500)", x.want(500), false);
        due("shunts", x.shunts(NONE), 3);
        due("want(0)", x.want(0), true);
        due("shunts", x.shunts(NONE), 5);
    }

    private static void shunts() {
        RailsGrowWider x = three();
        // 0 1 2 with 2 uppermost: 2 and 1 to the pit, 0 to 2, then 1, 2
        int[] due = {1, 1, 2, 5, 5};
        for (int i = 0; i < 5; i++) {
            due("shunts(" + i + ")", x.shunts(i), due[i]);
        }
        for (int bad : new int[] {5, -2, MOST, LEAST}) {
            due("shunts(" + bad + ")", x.shunts(bad), -2);
        }
        // feet and laws are no matter
        read(x, "moves 0;");
        x.by(0);
        due("shunts", x.shunts(NONE), 5);
        due("nothing is done", x.track(0, NONE), 3);
        // none: 0 and 1 may not be beside one another
        x.forbid(0, 1, true);
        due("shunts(-1)", x.shunts(NONE), -2);
        due("shunts(0)", x.shunts(0), -2);
        // 0 2 1 may be
        x.want(6);
        due("shunts", x.shunts(NONE) > 0, true);
        // it is so
        RailsGrowWider y = new RailsGrowWider();
        y.car(0, 1);
        y.move(0, 1);
        y.change();
        due("by one", y.shunts(NONE), 1);
        due("shunts(0)", y.shunts(0), 5);
        y.move(1, 2);
        due("it is so", y.shunts(NONE), 0);
        due("shunts(0)", y.shunts(0), -2);
    }

    private static void reach() {
        int[] ways = {1, 3, 12, 60, 360, 2520};
        RailsGrowWider x = new RailsGrowWider();
        for (int cars = 0; cars <= 5; cars++) {
            due("reach of " + cars, x.reach(), ways[cars]);
            x.car(cars % 4, 1);
        }
        // two that may not stand beside one another, the upper one off and never on again
        RailsGrowWider y = new RailsGrowWider();
        y.car(0, 1);
        y.forbid(0, 0, true);
        due("one alone", y.reach(), 3);
        y.car(0, 1);
        due("as now, and 6 on two TRACKS", y.reach(), 7);
        y.forbid(0, 0, false);
        due("all", y.reach(), 12);
        y.forbid(0, 0, true);
        due("as now, and 6 on two TRACKS", y.reach(), 7);
        y.move(0, 1);
        due("6 on two TRACKS", y.reach(), 6);
        due("nothing is done", y.track(0, NONE), 1);
    }

    private static void order() {
        RailsGrowWider x = new RailsGrowWider();
        due("without CARS", x.order(0, 0), -2);
        x.car(0, 1);
        due("order(119, 0)", x.order(119, 0), 0);
        due("order(119, 1)", x.order(119, 1), -2);
        for (int k = 1; k < 5; k++) {
            x.car(0, 1);
        }
        int[][] rows = {{0, 0, 1, 2, 3, 4}, {1, 0, 1, 2, 4, 3}, {6, 0, 2, 1, 3, 4}, {23, 0, 4, 3, 2, 1},
            {24, 1, 0, 2, 3, 4}, {61, 2, 3, 0, 4, 1}, {119, 4, 3, 2, 1, 0}};
        for (int[] row : rows) {
            for (int i = 0; i < 5; i++) {
                due("order(" + row[0] + ", " + i + ")", x.order(row[0], i), row[i + 1]);
            }
        }
        for (int[] bad : new int[][] {{-1, 0}, {120, 0}, {0, -1}, {0, 5}, {MOST, 0}, {0, MOST}, {LEAST, LEAST}}) {
            due("order of others", x.order(bad[0], bad[1]), -2);
        }
    }

    private static void rows() {
        RailsGrowWider x = new RailsGrowWider();
        long[] due = {1, 1, 2, 6, 24, 120};
        for (int cars = 0; cars <= 5; cars++) {
            due("rows of " + cars, x.rows(0), due[cars]);
            x.car(cars == 0 || cars == 2 ? 1 : 2, 1);
        }
        due("rows(1)", x.rows(1), 1);
        for (int bad : new int[] {-1, 3, MOST, LEAST}) {
            due("rows(" + bad + ")", x.rows(bad), NONE);
        }
        // KINDS 1 2 1 2 2
        x.forbid(2, 2, true);
        due("2 1 2 1 2: 6 times 2", x.rows(0), 12);
        x.forbid(1, 1, true);
        due("2 1 2 1 2: 6 times 2", x.rows(0), 12);
        x.forbid(1, 2, true);
        due("none", x.rows(0), 0);
        x.forbid(2, 2, false);
        x.forbid(1, 2, false);
        due("1 1 apart: 120 - 48", x.rows(0), 72);
    }

    private static void lowest() {
        RailsGrowWider x = new RailsGrowWider();
        due("no CAR", x.lowest(0, 0), -2);
        for (int kind : new int[] {1, 2, 1, 2, 2}) {
            x.car(kind, 1);
        }
        for (int i = 0; i < 5; i++) {
            due("lowest(0, " + i + ")", x.lowest(0, i), i);
        }
        x.forbid(2, 2, true);
        int[] due = {1, 0, 3, 2, 4};
        for (int i = 0; i < 5; i++) {
            due("lowest(0, " + i + ")", x.lowest(0, i), due[i]);
        }
        for (int[] bad : new int[][] {{0, 5}, {0, -1}, {1, 0}, {-1, 0}, {3, 0}, {0, MOST}, {MOST, 0}}) {
            due("lowest of others", x.lowest(bad[0], bad[1]), -2);
        }
        x.move(0, 1);
        x.move(0, 1);
        due("3 and 4 are both of KIND 2: nothing moved", x.track(1, NONE), 1);
        due("lowest(1, 0)", x.lowest(1, 0), 4);
        due("0 1 2 3 without 4", x.lowest(0, 3), 3);
        x.forbid(1, 2, true);
        due("none", x.lowest(0, 0), -2);
    }

    private static void crane() {
        RailsGrowWider x = new RailsGrowWider();
        due("without CARS", x.crane(true), 0);
        due("without CARS", x.crane(false), 0);
        for (int k = 0; k < 5; k++) {
            x.car(0, 1);
        }
        due("1 each", x.crane(true), 6);
        due("1 each", x.crane(false), 0);
        x.times(0, 5, 2);
        x.times(1, 1, 6);
        x.times(2, 9, 7);
        x.times(3, 3, 8);
        x.times(4, 10, 4);
        // the shortest lifts first, the shortest rolls last: 1 3 2 4 0, of 28 lifts and a roll of 2
        due("time", x.crane(true), 30);
        due("the lowest that takes 30", x.crane(false), lowestByHand(30));
        // one on another track counts too
        x.move(0, 1);
        due("time", x.crane(true), 30);
    }

    /** Of 1 3 2 4 0 and its like: all orders of 5 tried with the times of crane(). */
    private static int lowestByHand(int best) {
        int[] lift = {5, 1, 9, 3, 10};
        int[] roll = {2, 6, 7, 8, 4};
        int number = -1;
        for (int code = 0; code < 3125; code++) {
            int[] row = {code / 625, code / 125 % 5, code / 25 % 5, code / 5 % 5, code % 5};
            int all = 0;
            int lifted = 0;
            int rolled = 0;
            for (int c : row) {
                all |= 1 << c;
                lifted += lift[c];
                rolled = (lifted > rolled ? lifted : rolled) + roll[c];
            }
            if (all == 31) {
                number++;
                if (rolled == best) {
                    return number;
                }
            }
        }
        return -1;
    }

    private static void idle() {
        RailsGrowWider x = new RailsGrowWider();
        due("without CARS", x.idle(), 0);
        x.car(0, 1);
        due("one lift", x.idle(), 1);
        x.times(0, 20, 3);
        due("one lift", x.idle(), 20);
        x.car(0, 1);
        // 1 first: lifted at 1, rolled at 2; 0 lifted at 21, rolled at 24: 20 without rolling
        due("two lifts", x.idle(), 20);
        x.times(1, 2, 20);
        // 1 first: lifted at 2, rolled at 22; 0 lifted at 22, rolled at 25
        due("two lifts", x.idle(), 2);
        due("time", x.crane(true), 25);
    }

    private static void owe() {
        RailsGrowWider x = new RailsGrowWider();
        for (int[] bad : new int[][] {{-1, 0, 1}, {6, 0, 1}, {0, -1, 1}, {0, 6, 1}, {2, 2, 1}, {0, 1, 0}, {0, 1, 100},
            {0, 1, -5}, {MOST, 0, 1}, {0, 1, MOST}, {0, LEAST, 1}}) {
            due("owe of others", x.owe(bad[0], bad[1], bad[2]), false);
        }
        due("balance(0)", x.balance(0), 0);
        due("owe(0, 5, 99)", x.owe(0, 5, 99), true);
        due("owe(0, 5, 1)", x.owe(0, 5, 1), true);
        due("owe(5, 0, 30)", x.owe(5, 0, 30), true);
        due("balance(0)", x.balance(0), -70);
        due("balance(5)", x.balance(5), 70);
    }

    private static void balance() {
        RailsGrowWider x = new RailsGrowWider();
        x.owe(1, 2, 10);
        x.owe(2, 3, 4);
        int[] due = {0, -10, 6, 4, 0, 0};
        for (int r = 0; r < 6; r++) {
            due("balance(" + r + ")", x.balance(r), due[r]);
        }
        for (int bad : new int[] {-1, 6, MOST, LEAST}) {
            due("balance(" + bad + ")", x.balance(bad), -100000);
        }
    }

    /** BALANCES 3 -3 3 -3 5 -5: three GROUPS, in two ways. */
    private static RailsGrowWider owing() {
        RailsGrowWider x = new RailsGrowWider();
        x.owe(1, 0, 3);
        x.owe(3, 2, 3);
        x.owe(5, 4, 5);
        return x;
    }

    private static void settled() {
        RailsGrowWider x = new RailsGrowWider();
        due("none owes", x.settled(0), 0);
        due("none owes", x.settled(1), 6);
        x = owing();
        due("payments", x.settled(0), 3);
        due("groups", x.settled(1), 3);
        x.owe(0, 4, 1);
        // 2 -3 3 -3 6 -5: {1, 2} and 2 -3 6 -5
        due("payments", x.settled(0), 4);
        due("groups", x.settled(1), 2);
        x.owe(1, 2, 20);
        // 2 -23 23 -3 6 -5: {1, 2} still
        due("groups", x.settled(1), 2);
        x.owe(1, 3, 50);
        due("one group", x.settled(1), 1);
        due("payments", x.settled(0), 5);
        for (int bad : new int[] {-1, 2, MOST, LEAST}) {
            due("settled(" + bad + ")", x.settled(bad), NONE);
        }
    }

    private static void group() {
        RailsGrowWider x = owing();
        int[] due = {3, 3, 12, 12, 48, 48};
        for (int r = 0; r < 6; r++) {
            due("group(" + r + ")", x.group(r), due[r]);
        }
        // 1 2 -2 -1 ...: {0, 3}, {1, 2}
        RailsGrowWider y = new RailsGrowWider();
        y.owe(3, 0, 1);
        y.owe(2, 1, 2);
        int[] second = {9, 6, 6, 9, 16, 32};
        for (int r = 0; r < 6; r++) {
            due("group(" + r + ")", y.group(r), second[r]);
        }
        // 2 1 1 -2 -2 0: {0, 3} {1, 2, 4} or {0, 4} {1, 2, 3}
        RailsGrowWider z = new RailsGrowWider();
        z.owe(3, 0, 2);
        z.owe(4, 1, 1);
        z.owe(4, 2, 1);
        int[] third = {9, 22, 22, 9, 22, 32};
        for (int r = 0; r < 6; r++) {
            due("group(" + r + ")", z.group(r), third[r]);
        }
        for (int bad : new int[] {-1, 6, MOST, LEAST}) {
            due("group(" + bad + ")", z.group(bad), NONE);
        }
    }

    private static void trip() {
        RailsGrowWider x = new RailsGrowWider();
        for (int[] bad : new int[][] {{-2, 0, 1}, {31, 31, 1}, {0, 31, 1}, {5, 4, 1}, {0, 0, 0}, {0, 0, 10}, {0, -1, 1},
            {LEAST, 0, 1}, {0, MOST, 1}, {0, 0, MOST}}) {
            due("trip of others", x.trip(bad[0], bad[1], bad[2]), -2);
        }
        due("about(4)", x.about(4), 0);
        for (int k = 1; k <= 8; k++) {
            due("trip", x.trip(k == 1 ? 0 : 3, 30, 9), k);
        }
        due("the ninth", x.trip(0, 0, 1), -2);
        due("none any more", x.trip(NONE, 99, 99), 0);
        due("stock", x.stock(false), 0);
        due("trip", x.trip(30, 30, 1), 1);
        due("no STEP", x.about(3), 0);
    }

    private static void stock() {
        RailsGrowWider x = new RailsGrowWider();
        due("without", x.stock(false), 0);
        due("without", x.stock(true), NONE);
        x.trip(30, 30, 2);
        due("stock", x.stock(false), 2);
        due("day", x.stock(true), 30);
        x.trip(0, 10, 2);
        due("stock", x.stock(false), 2);
        due("the first day", x.stock(true), 0);
        x.trip(10, 20, 3);
        due("both days too", x.stock(false), 5);
        due("day", x.stock(true), 10);
        x.trip(11, 12, 4);
        due("stock", x.stock(false), 7);
        due("day", x.stock(true), 11);
    }

    private static void seen() {
        RailsGrowWider x = three();
        for (int[] bad : new int[][] {{-2, 0, 0}, {4, 0, 0}, {0, -1, 0}, {0, 3, 0}, {0, 0, -1}, {0, 0, 3}, {MOST, 0, 0},
            {0, MOST, 0}, {0, 0, LEAST}}) {
            due("seen of others", x.seen(bad[0], bad[1], bad[2]), -2);
        }
        due("about(5)", x.about(5), 0);
        for (int k = 1; k <= 4; k++) {
            due("seen", x.seen(k - 1, 0, 2), k);
        }
        due("the fifth", x.seen(0, 0, 0), -2);
        due("about(5)", x.about(5), 4);
        due("none any more", x.seen(NONE, 77, 77), 0);
        due("seen", x.seen(3, 2, 2), 1);
    }

    private static void histories() {
        RailsGrowWider x = new RailsGrowWider();
        due("no MOVES", x.histories(false), 1);
        due("no MOVES", x.histories(true), 0);
        x.car(0, 1);
        x.seen(0, 0, 0);
        due("told since THE IMAGE: nowhere", x.histories(false), 0);
        due("none", x.histories(true), NONE);
        x.image();
        due("now it was there", x.histories(false), 1);
        due("no MOVES", x.histories(true), 0);
        x.seen(NONE, 0, 0);
        x.seen(3, 0, 0);
        // 01 12 20 and 02 21 10: 1 5 6 and 2 7 3
        due("in two ways", x.histories(false), 2);
        due("the lowest", x.histories(true), 81 + 45 + 6);
        x.seen(1, 0, 2);
        due("in one way", x.histories(false), 1);
        due("the lowest", x.histories(true), 162 + 63 + 3);
        x.seen(2, 0, 2);
        due("none", x.histories(false), 0);
        x.seen(NONE, 0, 0);
        // where CARS are now is no matter
        x.move(0, 1);
        x.seen(1, 0, 1);
        due("from THE IMAGE on", x.histories(true), 1);
        // by KINDS as they may stand now
        RailsGrowWider y = new RailsGrowWider();
        y.car(1, 1);
        y.car(1, 1);
        y.image();
        y.seen(2, 0, 1);
        // 1 off to the pit, then 0 onto it; 1 off to 2, then 0 to the pit
        due("in two ways", y.histories(false), 2);
        due("the lowest", y.histories(true), 9 + 1);
        y.forbid(1, 1, true);
        due("in one way", y.histories(false), 1);
        due("the lowest", y.histories(true), 18 + 1);
    }

    private static void late() {
        RailsGrowWider x = three();
        for (int[] bad : new int[][] {{-1, 0}, {3, 0}, {0, -1}, {0, 11}, {MOST, 1}, {0, MOST}, {LEAST, LEAST}}) {
            due("late of others", x.late(bad[0], bad[1]), false);
        }
        due("at first 0", x.likely(7, false), 1);
        due("late(0, 10)", x.late(0, 10), true);
        due("never", x.likely(1, false), 0);
        due("late(0, 0)", x.late(0, 0), true);
        due("always", x.likely(1, false), 1);
    }

    private static void likely() {
        RailsGrowWider x = new RailsGrowWider();
        due("of none", x.likely(0, false), 1);
        due("of none", x.likely(0, true), 1);
        due("no CAR", x.likely(1, true), NONE);
        for (int k = 0; k < 5; k++) {
            x.car(0, 1);
            x.late(k, 3);
        }
        due("7/10", x.likely(4, false), 7);
        due("7/10", x.likely(4, true), 10);
        due("7^5", x.likely(31, false), 16807);
        due("10^5", x.likely(31, true), 100000);
        x.late(1, 5);
        x.late(2, 6);
        due("1/2 * 2/5", x.likely(6, false), 1);
        due("1/2 * 2/5", x.likely(6, true), 5);
        x.late(2, 10);
        due("0/1", x.likely(6, false), 0);
        due("0/1", x.likely(6, true), 1);
        for (int bad : new int[] {-1, 32, 33, MOST, LEAST}) {
            due("likely(" + bad + ")", x.likely(bad, false), NONE);
        }
    }

    private static void said() {
        RailsGrowWider x = three();
        for (int[] bad : new int[][] {{-2, 0}, {3, 0}, {0, -10}, {0, 10}, {MOST, 0}, {0, MOST}, {LEAST, 0}}) {
            due("said of others", x.said(bad[0], bad[1]), -2);
        }
        due("about(6)", x.about(6), 0);
        for (int k = 1; k <= 8; k++) {
            due("said", x.said(k % 3, k % 2 == 0 ? 9 : -9), k);
        }
        due("the ninth", x.said(0, 0), -2);
        due("about(6)", x.about(6), 8);
        due("none any more", x.said(NONE, 77), 0);
        due("said", x.said(2, 0), 1);
    }

    private static void whose() {
        RailsGrowWider x = three();
        due("no TEXTS", x.whose(), 0);
        read(x, "changes load-2;");
        read(x, "moves 7;");
        read(x, "changes if kind=0 then 1 else narrow+broad end;");
        due("nothing said", x.whose(), 7);
        x.said(0, 1);
        due("all say 1 of CAR 0", x.whose(), 7);
        x.said(1, 2);
        due("2 of CAR 1", x.whose(), 5);
        x.said(2, 3);
        due("3 of CAR 2", x.whose(), 1);
        x.by(1);
        due("whichever rules", x.whose(), 1);
        x.said(NONE, 0);
        x.said(2, 9);
        x.lend(0, 7);
        due("as now", x.whose(), 4);
    }

    private static void heaviest() {
        RailsGrowWider x = new RailsGrowWider();
        due("none", x.heaviest(), NONE);
        x.car(0, 1);
        due("above 0", x.heaviest(), 0);
        x.back();
        x.car(0, 4);
        x.car(0, 5);
        due("heaviest", x.heaviest(), 0);
        x.move(0, 1);
        due("heaviest", x.heaviest(), 1);
        x.car(0, 1);
        due("of like ones the lowest", x.heaviest(), 0);
        x.change();
        x.move(1, 2);
        x.move(0, 1);
        due("heaviest", x.heaviest(), 2);
    }

    private static void worn() {
        RailsGrowWider x = three();
        due("none", x.worn(), NONE);
        x.hour(1);
        due("worn", x.worn(), 1);
        // 8254 nothing, 12795 mod 3 is 0: CAR 0; of like ones the lowest
        x.hour(1);
        due("worn", x.worn(), 0);
        due("of(0, 5)", x.of(0, 5), 1);
        due("of(1, 5)", x.of(1, 5), 1);
    }

    private static void amiss() {
        RailsGrowWider x = new RailsGrowWider();
        for (int k = 0; k < 4; k++) {
            x.car(k % 2, 1);
        }
        due("amiss", x.amiss(), 0);
        x.forbid(1, 0, true);
        due("each pair once", x.amiss(), 3);
        x.move(0, 1);
        due("amiss", x.amiss(), 2);
        x.forbid(0, 0, true);
        due("not beside one another", x.amiss(), 2);
    }

    private static void ledger() {
        RailsGrowWider x = three();
        for (int what = 0; what < 3; what++) {
            due("ledger(" + what + ")", x.ledger(what), 0);
        }
        x.lend(1, 2);
        x.move(0, 1);
        x.move(0, 1);
        x.move(0, 1);
        x.change();
        x.change();
        x.hour(1);
        int[] due = {3, 2, 1};
        for (int what = 0; what < 3; what++) {
            due("ledger(" + what + ")", x.ledger(what), due[what]);
        }
        for (int bad : new int[] {-1, 3, MOST, LEAST}) {
            due("ledger(" + bad + ")", x.ledger(bad), -2);
        }
    }

    /** A station where everything has been told and done. */
    private static RailsGrowWider busy() {
        RailsGrowWider x = three();
        x.forbid(0, 3, true);
        x.times(0, 2, 3);
        read(x, "moves 5;");
        x.by(0);
        x.move(0, 1);
        x.hour(7);
        x.want(9);
        x.owe(0, 1, 9);
        x.trip(1, 2, 3);
        x.seen(0, 0, 0);
        x.late(1, 4);
        x.said(0, 1);
        return x;
    }

    private static void tellMore(RailsGrowWider x) {
        x.car(3, 9);
        x.forbid(0, 3, false);
        x.forbid(1, 2, true);
        x.times(0, 20, 20);
        read(x, "moves 6;");
        x.by(1);
        x.move(1, 0);
        x.undo();
        x.undo();
        x.hour(3);
        x.lend(0, 2);
        x.want(100);
        x.owe(3, 4, 5);
        x.trip(NONE, 0, 0);
        x.trip(5, 6, 7);
        x.seen(NONE, 0, 0);
        x.seen(0, 1, 1);
        x.late(1, 9);
        x.said(NONE, 0);
        x.said(1, 9);
    }

    private static void same(RailsGrowWider x, RailsGrowWider y) {
        for (int what = 0; what < 7; what++) {
            due("about(" + what + ")", x.about(what), y.about(what));
            due("is(" + what + ")", x.is(what), y.is(what));
            due("balance(" + what + ")", x.balance(what), y.balance(what));
            for (int c = -1; c < 5; c++) {
                due("of(" + c + ", " + what + ")", x.of(c, what), y.of(c, what));
                due("track(" + what + ", " + c + ")", x.track(what, c), y.track(what, c));
            }
        }
        due("law", x.law(0, 1), y.law(0, 1));
        due("crane", x.crane(true), y.crane(true));
        due("shunts", x.shunts(NONE), y.shunts(NONE));
        due("shunts", x.shunts(0), y.shunts(0));
        due("stock", x.stock(false), y.stock(false));
        due("likely", x.likely(2, false), y.likely(2, false));
        due("whose", x.whose(), y.whose());
        due("book", x.book(NONE, 0), y.book(NONE, 0));
        due("reach", x.reach(), y.reach());
        due("histories", x.histories(false), y.histories(false));
    }

    private static void image() {
        RailsGrowWider x = busy();
        due("image", x.image(), 7);
        due("histories go out from it", x.histories(false), 1);
        x.hour(2);
        due("image", x.image(), 9);
        x.hour(2);
        due("back", x.back(), 9);
        due("no STEP", x.about(3), 10);
    }

    private static void back() {
        RailsGrowWider x = busy();
        RailsGrowWider y = busy();
        x.image();
        y.image();
        tellMore(x);
        due("back", x.back(), 7);
        same(x, y);
        // it stays, and is no part of itself
        tellMore(x);
        tellMore(x);
        due("back", x.back(), 7);
        same(x, y);
        due("the STEPS are so again", x.undo(), 7);
        due("undo", y.undo(), 7);
        same(x, y);
        // STEPS in a ring that has turned
        RailsGrowWider turned = new RailsGrowWider();
        turned.car(0, 1);
        turned.hour(37);
        turned.image();
        turned.hour(11);
        turned.back();
        due("undo", turned.undo(), 29);
        due("is(0)", turned.is(0), 36);
        // the tape and the latest FAULT are no part of it
        RailsGrowWider z = new RailsGrowWider();
        z.feed(0, 0, 0, 0, 0);
        z.back();
        due("about(7)", z.about(7), 20);
        z.text();
        z.back();
        due("fault(0)", z.fault(0), 1);
        z.feed(1, 2, 3, 4, 5);
        z.image();
        z.end(3);
        z.back();
        due("about(7)", z.about(7), 3);
    }

    private static void about() {
        RailsGrowWider x = busy();
        x.feed(0, 0, 0, 0, 0);
        int[] due = {3, 1, 0, 8, 1, 1, 1, 20};
        for (int what = 0; what < 8; what++) {
            due("about(" + what + ")", x.about(what), due[what]);
        }
        for (int bad : new int[] {-1, 8, MOST, LEAST}) {
            due("about(" + bad + ")", x.about(bad), -2);
        }
    }

    private static void firstHalf() {
        promise = 1; newObject();
        promise = 2; car();
        promise = 3; forbid();
        promise = 4; times();
        promise = 5; feed();
        promise = 6; end();
        promise = 7; text();
        promise = 8; fault();
        promise = 9; by();
        promise = 10; move();
        promise = 11; change();
        promise = 12; lend();
        promise = 13; hour();
        promise = 14; played();
        promise = 15; years();
        promise = 16; undo(); undoTold();
        promise = 17; of();
        promise = 18; track();
        promise = 19; law();
        promise = 20; is();
        promise = 21; book();
        promise = 22; foretold();
        promise = 23; want();
        promise = 24; shunts();
        promise = 25; reach();
    }

    private static void secondHalf() {
        promise = 26; order();
        promise = 27; rows();
        promise = 28; lowest();
        promise = 29; crane();
        promise = 30; idle();
        promise = 31; owe();
        promise = 32; balance();
        promise = 33; settled();
        promise = 34; group();
        promise = 35; trip();
        promise = 36; stock();
        promise = 37; seen();
        promise = 38; histories();
        promise = 39; late();
        promise = 40; likely();
        promise = 41; said();
        promise = 42; whose();
        promise = 43; heaviest();
        promise = 44; worn();
        promise = 45; amiss();
        promise = 46; ledger();
        promise = 47; image();
        promise = 48; back();
        promise = 49; about();
    }

    public static void main(String[] args) {
        firstHalf();
        secondHalf();
        System.out.println(asked + " answers, " + wrong + " not as due");
        if (wrong != 0) {
            System.exit(1);
        }
    }
}
