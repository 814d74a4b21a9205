/** Part II of the document: TEXTS, TOKENS, CLAUSES, SUMS, FAULTS, what rules and what is PLAYED. */
final class TextBounds extends Checks {
    private static final String[] OF_BOTH = {"hour", "number", "load", "kind", "wide", "worn"};
    private static final String[] OF_MOVES = {"from", "to", "many"};
    private static final String[] OF_CHANGES = {"narrow", "broad"};

    private TextBounds() {
    }

    static void all() {
        fourTexts();
        threeHundredBytes();
        blanks();
        letters();
        digits();
        signs();
        clauses();
        sums();
        weighing();
        faults();
        theText();
    }

    // ---- TEXTS and TOKENS

    private static void fourTexts() {
        sentence("==== II. TEXTS 0 .. 3:");
        RailsGrowWider x = ofLoads(1);
        for (int text = 0; text <= 3; text++) {
            due("not yet", x.by(text), false);
            due("not yet", x.played(text), -2);
            due("text", read(x, "moves " + (10 + text) + ";"), text);
            due("TEXTS", x.about(1), text + 1);
        }
        due("a fifth", read(x, "moves 14;"), NONE);
        due("TEXTS", x.about(1), 4);
        due("by(4)", x.by(4), false);
        due("played(4)", x.played(4), -2);
        for (int text = 0; text <= 3; text++) {
            due("by", x.by(text), true);
            due("its law", x.law(0, 1), 10 + text);
        }
    }

    private static void threeHundredBytes() {
        sentence("of up to 300 bytes.");
        reads(padded("change;", 300));
        reads(" ".repeat(293) + "change;");
        reads(" ".repeat(300));
        reads("");
        faulty(" ".repeat(299) + "?", 1, 299);
        // as many TOKENS as bytes
        faulty(";".repeat(300), 1, 0);
        faulty(";".repeat(299), 1, 0);
        faulty("changes" + "(".repeat(293), 3, 15);
        faulty("changes 1" + "+1".repeat(145) + "+", 1, 300);
        faulty(padded("change", 300), 1, 300);
        faulty(" ".repeat(294) + "change", 1, 300);
        RailsGrowWider x = ofLoads(1);
        // 146 times "1+", then "1": 147 of them
        readAndRule(x, "moves " + "1+".repeat(146) + "1;");
        due("147, and 99 at most", x.law(0, 1), 99);
        readAndRule(x, "moves " + "1-".repeat(146) + "1;");
        due("1 less 146", x.law(0, 1), -99);
        readAndRule(x, "moves " + "1-".repeat(50) + "1" + " ".repeat(193 - 1) + ";");
        due("1 less 50", x.law(0, 1), -49);
    }

    private static void blanks() {
        sentence("TOKENS, blanks (32, 10) aside:");
        for (int sign = 0; sign <= 255; sign++) {
            boolean blank = sign == 32 || sign == 10;
            String s = "change" + (char) sign + ";";
            if (blank) {
                reads(s);
                reads("" + (char) sign);
            } else if (sign == ';') {
                faulty(s, 1, 7);
            } else if (isLetter(sign)) {
                // "changes" alone is a word, too: behind it the SUM is missing
                faulty(s, 1, sign == 's' ? 7 : 0);
            } else {
                faulty(s, 1, 6);
            }
            if (!blank) {
                faulty("" + (char) sign, 1, 0);
            }
        }
        reads("\n \nchange\n\n;  \n");
        reads("car0load1;");
        reads("lend 1of0;");
    }

    private static boolean isLetter(int sign) {
        return sign >= 'a' && sign <= 'z' || sign >= 'A' && sign <= 'Z';
    }

    private static void letters() {
        sentence("letters a .. z, A .. Z one behind the other (one TOKEN),");
        for (int sign = 0; sign <= 255; sign++) {
            // "hour" and a letter is one TOKEN, at its first byte; "1" and a letter are two
            if (isLetter(sign)) {
                faulty("change;hour" + (char) sign + " 1;", 1, 7);
                faulty("hour 1" + (char) sign + ";", 1, 6);
                faulty("moves 1+" + (char) sign + ";", 1, 8);
            }
        }
        faulty("@change;", 1, 0);
        faulty("change;hour 1;[", 1, 14);
        faulty("CHANGE;", 1, 0);
        faulty("chanGe;", 1, 0);
        faulty("chang e;", 1, 0);
        faulty("changechange;", 1, 0);
        faulty("change;" + "a".repeat(293), 1, 7);
        // cut in the midst of a word: what was behind it counts no more
        RailsGrowWider x = new RailsGrowWider();
        write(x, "change;");
        x.end(5);
        due("chang", x.text(), NONE);
        due("can't stand there", x.fault(0), 1);
        due("at 0", x.fault(1), 0);
    }

    private static void digits() {
        sentence("digits likewise (NUMBERS, 0 .. 9999),");
        reads("moves 0;");
        reads("moves 9999;");
        faulty("moves 10000;", 2, 6);
        reads("moves 000000000000009999;");
        faulty("moves 000000000000010000;", 2, 6);
        reads("moves " + "0".repeat(292) + "7;");
        faulty("moves " + "9".repeat(293) + ";", 2, 6);
        // numbers that would come round again in 32 or 64 bits
        faulty("hour 4294967297;", 2, 5);
        faulty("hour 18446744073709551617;", 2, 5);
        faulty("moves 4294967296;", 2, 6);
        faulty("moves 65536;", 2, 6);
        faulty("moves 1 2;", 1, 8);
        for (int sign = 0; sign <= 255; sign++) {
            if (sign >= '0' && sign <= '9') {
                reads("hour 1" + (char) sign + ";");
                faulty("hour 6" + (char) sign + "1;", 2, 5);
            } else if (sign != ' ' && sign != '\n' && sign != ';') {
                faulty("hour 1" + (char) sign + ";", 1, 6);
            }
        }
        // cut in the midst of a NUMBER
        RailsGrowWider x = new RailsGrowWider();
        write(x, "hour 61;");
        x.end(6);
        due("hour 6", x.text(), NONE);
        due("the end can't stand there", x.fault(0), 1);
        due("at the length", x.fault(1), 6);
    }

    private static void signs() {
        sentence("<= >= < > = # + - * / ( ) ; (the longest).");
        String behind = " 2 then 1 else 3 end;";
        for (String sign : new String[] {"<=", ">=", "<", ">", "=", "#"}) {
            reads("moves if 1" + sign + behind);
        }
        faulty("moves if 1< =" + behind, 1, 12);
        faulty("moves if 1> =" + behind, 1, 12);
        faulty("moves if 1=<" + behind, 1, 11);
        faulty("moves if 1=>" + behind, 1, 11);
        faulty("moves if 1<>" + behind, 1, 11);
        faulty("moves if 1<<" + behind, 1, 11);
        faulty("moves if 1<==" + behind, 1, 12);
        faulty("moves if 1>==" + behind, 1, 12);
        faulty("moves if 1##" + behind, 1, 11);
        faulty("moves if 1!=" + behind, 1, 10);
        faulty("moves if 1<", 1, 11);
        faulty("moves if 1<=", 1, 12);
        // the last bytes of the longest tape
        for (String sign : new String[] {"<", ">", "=", "<=", ">="}) {
            String whole = "moves if 1" + sign;
            faulty(" ".repeat(300 - whole.length()) + whole, 1, 300);
            faulty(" ".repeat(300 - sign.length()) + sign, 1, 300 - sign.length());
        }
        reads("moves 1+2-3*4/5;changes(1);");
    }

    // ---- CLAUSES

    private static void clauses() {
        atMostTwentyFour();
        lawsOnce();
        carClause();
        forbidClause();
        moveClause();
        changeClause();
        lendClause();
        hourClause();
    }

    private static void atMostTwentyFour() {
        sentence("{CLAUSE}, 24 at most:");
        for (int many : new int[] {0, 1, 23, 24}) {
            RailsGrowWider x = new RailsGrowWider();
            due(many + " of them", read(x, "hour 1;".repeat(many)), 0);
            due("all is done", x.played(0), NONE);
            due("HOUR", x.is(0), many);
        }
        faulty("hour 1;".repeat(25), 6, 168);
        faulty("moves 1;changes 1;" + "change;".repeat(22) + "change;", 6, 172);
        reads("moves 1;changes 1;" + "change;".repeat(22));
    }

    private static void lawsOnce() {
        sentence("moves SUM ; or changes SUM ; (each once)");
        reads("moves 1;");
        reads("changes 1;");
        reads("moves 1;changes 1;");
        reads("changes 1;hour 1;moves 1;");
        faulty("moves 1;moves 1;", 4, 8);
        faulty("changes 1;changes 1;", 4, 10);
        faulty("moves 1;changes 1;moves 1;", 4, 18);
        faulty("moves;", 1, 5);
        faulty("changes;", 1, 7);
        faulty("moves 1", 1, 7);
        faulty("changes 1", 1, 9);
        faulty("moves", 1, 5);
        faulty("moves 1 change;", 1, 8);
    }

    private static void carClause() {
        sentence("or car NUMBER load NUMBER ; (KIND)");
        for (int kind = 0; kind <= 3; kind++) {
            RailsGrowWider x = new RailsGrowWider();
            read(x, "car " + kind + " load 1;car " + kind + " load 9;");
            due("both", x.played(0), NONE);
            due("KIND", x.of(0, 0), kind);
            due("LOAD", x.of(0, 1), 1);
            due("LOAD", x.of(1, 1), 9);
        }
        faulty("car 4 load 1;", 2, 4);
        faulty("car 0 load 0;", 2, 11);
        faulty("car 0 load 10;", 2, 11);
        faulty("car -1 load 1;", 1, 4);
        cutShort("car 0 load 1;", 3, 5, 10, 12);
        faulty("car 0 load 1 2;", 1, 13);
        faulty("car load load 1;", 1, 4);
        faulty("car (0) load 1;", 1, 4);
    }

    private static void forbidClause() {
        sentence("or forbid NUMBER by NUMBER ; (KINDS)");
        for (int kind = 0; kind <= 3; kind++) {
            RailsGrowWider x = ofKinds(kind, 0, kind, 3);
            due("text", read(x, "forbid " + kind + " by 0;forbid 3 by " + kind + ";"), 0);
            due("all is done", x.played(0), NONE);
            due("amiss", x.amiss(), 3);
        }
        faulty("forbid 4 by 0;", 2, 7);
        faulty("forbid 0 by 4;", 2, 12);
        faulty("forbid 9999 by 0;", 2, 7);
        faulty("forbid 10000 by 0;", 2, 7);
        cutShort("forbid 0 by 1;", 6, 8, 11, 13);
    }

    private static void moveClause() {
        sentence("or move NUMBER to NUMBER ; (TRACKS)");
        for (int from = 0; from <= 2; from++) {
            for (int to = 0; to <= 2; to++) {
                reads("move " + from + " to " + to + ";");
            }
        }
        faulty("move 3 to 0;", 2, 5);
        faulty("move 0 to 3;", 2, 10);
        cutShort("move 0 to 1;", 4, 6, 9, 11);
    }

    private static void changeClause() {
        sentence("or change ;");
        reads("change;");
        reads("change ;");
        faulty("change", 1, 6);
        faulty("change 1;", 1, 7);
        faulty(";", 1, 0);
    }

    private static void lendClause() {
        sentence("or lend NUMBER of NUMBER ; (1 .. 9 WHEELS that come, wide)");
        for (int wide = 0; wide <= 1; wide++) {
            RailsGrowWider x = new RailsGrowWider();
            x.lend(wide, -1);
            read(x, "lend 9 of " + wide + ";");
            read(x, "lend 1 of " + wide + ";");
            due("9", x.played(0), NONE);
            due("WHEELS", x.is(2 + wide), 9);
            due("the others", x.is(3 - wide), 1);
            due("a tenth can't be", x.played(1), 0);
            due("nor nine", x.played(0), 0);
            x.lend(wide, -1);
            due("8 and 1", x.played(1), NONE);
            due("WHEELS", x.is(2 + wide), 9);
        }
        faulty("lend 0 of 0;", 2, 5);
        faulty("lend 10 of 0;", 2, 5);
        faulty("lend 1 of 2;", 2, 10);
        faulty("lend -1 of 0;", 1, 5);
        cutShort("lend 1 of 0;", 4, 6, 9, 11);
    }

    private static void hourClause() {
        sentence("or hour NUMBER ;.");
        for (int hours : new int[] {1, 2, 59, 60}) {
            RailsGrowWider x = new RailsGrowWider();
            read(x, "hour " + hours + ";");
            due("all is done", x.played(0), NONE);
            due("HOUR", x.is(0), hours);
            due("STEPS", x.about(3), Math.min(30, hours));
        }
        faulty("hour 0;", 2, 5);
        faulty("hour 61;", 2, 5);
        cutShort("hour 1;", 4, 6);
    }

    /** Cut behind each of its TOKENS, the last aside, the end can't stand there, nor can moves. */
    private static void cutShort(String clause, int... lengths) {
        reads(clause);
        for (int length : lengths) {
            faulty(clause.substring(0, length), 1, length);
            faulty(clause.substring(0, length) + " moves", 1, length + 1);
        }
    }

    // ---- SUMS

    private static void sums() {
        sumsAndProducts();
        ones();
        oddOnes();
        topOnes();
        choices();
        names();
    }

    /** What moves says of CAR 0 (KIND 2, LOAD 3) from TRACK 0 to 1, where CAR 1 of LOAD 7 stands. */
    private static int says(String sum) {
        RailsGrowWider x = new RailsGrowWider();
        x.car(2, 3);
        x.car(1, 7);
        x.move(0, 1);
        int text = read(x, "moves " + sum + ";");
        if (text == NONE) {
            return 1000 * x.fault(0) + x.fault(1);
        }
        x.by(text);
        return x.law(0, 1);
    }

    private static void says(String sum, int want) {
        due(sum, says(sum), want);
    }

    private static void sumsAndProducts() {
        sentence("SUM: PRODUCT {+ or - PRODUCT}. PRODUCT: ONE {* or / ONE}.");
        says("5", 5);
        says("5+4", 9);
        says("5-4", 1);
        says("5+4-3+2-1", 7);
        says("5*4", 20);
        says("9/4", 2);
        says("2*3*4/5*6", 24);
        says("1+2*3-8/4", 5);
        for (String sign : new String[] {"+", "-", "*", "/"}) {
            faulty("moves 1" + sign + ";", 1, 8);
            faulty("moves 1" + sign, 1, 8);
        }
        faulty("moves +1;", 1, 6);
        faulty("moves *1;", 1, 6);
        faulty("moves /1;", 1, 6);
        faulty("moves 1++1;", 1, 8);
        faulty("moves 1*/1;", 1, 8);
    }

    private static void ones() {
        sentence("ONE: NUMBER, NAME, ( SUM ), - ONE,");
        says("0", 0);
        says("load", 3);
        says("(4)", 4);
        says("(4+1)*2", 10);
        says("-4", -4);
        says("--4", 4);
        says("-load*2", -6);
        says("-(1+2)", -3);
        says("7--4", 11);
        says("2*-3", -6);
        says("-0", 0);
        faulty("moves ();", 1, 7);
        faulty("moves (1;", 1, 8);
        faulty("moves (1", 1, 8);
        faulty("moves 1);", 1, 7);
        faulty("moves -;", 1, 7);
        faulty("moves -", 1, 7);
        faulty("moves lond;", 1, 6);
    }

    private static void oddOnes() {
        sentence("odd ONE (1, if it is odd, else 0),");
        int[][] each = {{0, 0}, {1, 1}, {2, 0}, {3, 1}, {9998, 0}, {9999, 1}};
        for (int[] one : each) {
            says("odd " + one[0], one[1]);
            says("odd -" + one[0], one[1]);
            says("-odd " + one[0], -one[1]);
        }
        says("odd(1000*1000)", 0);
        says("odd(1000*1000-1)", 1);
        says("odd -(1000*1000-1)", 1);
        says("odd(-1000*1000+1)", 1);
        says("odd odd 5", 1);
        says("odd 2+1", 1);
        faulty("moves odd;", 1, 9);
        faulty("moves odd 1=1;", 1, 11);
    }

    private static void topOnes() {
        sentence("top ONE (LOAD of the uppermost CAR of the TRACK of that number; 0 for others, or without),");
        says("top 0", 3);
        says("top 1", 7);
        says("top 2+5", 5);
        for (String other : new String[] {"3", "-1", "4", "9999", "-9999", "(1000*1000)", "(-1000*1000)"}) {
            says("top " + other + "+5", 5);
        }
        says("top top 2", 3);
        says("top 0*2", 6);
        says("top(0+1)", 7);
        faulty("moves top;", 1, 9);
        RailsGrowWider x = ofLoads(1, 9);
        bringToWide(x);
        readAndRule(x, "moves top 2*10+top 1;changes top 2*10+top 1+top 0;");
        due("LOAD 9 on 2, none on 1", x.law(0, 1), 90);
        due("in changes too", x.law(0, 0), 91);
        due("of the uppermost, whichever is asked", x.law(2, 2), 91);
    }

    private static void choices() {
        sentence("if EITHER then SUM else SUM end. EITHER: BOTH {or BOTH}. BOTH: ASK {and ASK}.");
        String both = " then 5 else 6 end";
        String[] asks = {"1=1", "1=2"};
        for (int bits = 0; bits < 8; bits++) {
            String a = asks[bits & 1];
            String b = asks[bits >> 1 & 1];
            String c = asks[bits >> 2 & 1];
            boolean isA = (bits & 1) == 0;
            boolean isB = (bits >> 1 & 1) == 0;
            boolean isC = (bits >> 2 & 1) == 0;
            says("if " + a + both, isA ? 5 : 6);
            says("if " + a + " or " + b + " or " + c + both, isA || isB || isC ? 5 : 6);
            says("if " + a + " and " + b + " and " + c + both, isA && isB && isC ? 5 : 6);
            says("if " + a + " or " + b + " and " + c + both, isA || isB && isC ? 5 : 6);
            says("if " + a + " and " + b + " or " + c + both, isA && isB || isC ? 5 : 6);
            says("if not " + a + " and " + b + both, !isA && isB ? 5 : 6);
        }
        cutShort("moves if 1 = 1 and 1 = 2 or 1 = 3 then 4 else 5 end;",
            8, 10, 12, 14, 18, 20, 22, 24, 27, 29, 31, 33, 38, 40, 45, 47, 51);
        sentence("ASK: not ASK, or SUM one of < <= > >= = # (unlike) SUM.");
        for (int[] sides : new int[][] {{1, 2}, {2, 2}, {3, 2}, {-2, 2}}) {
            int a = sides[0];
            int b = sides[1];
            asks(a + "<" + b, a < b);
            asks(a + "<=" + b, a <= b);
            asks(a + ">" + b, a > b);
            asks(a + ">=" + b, a >= b);
            asks(a + "=" + b, a == b);
            asks(a + "#" + b, a != b);
        }
        cutShort("moves if not 1 < 2 then 4 else 5 end;", 8, 12, 14, 16, 18);
        faulty("moves if 1" + both + ";", 1, 11);
        faulty("moves if 1=1=1" + both + ";", 1, 12);
        faulty("moves if (1=1)" + both + ";", 1, 11);
        faulty("moves not 1=1;", 1, 6);
        faulty("moves 1=1;", 1, 7);
        faulty("moves if 1=not 1=1" + both + ";", 1, 11);
    }

    /** By itself, turned round, and beside others. */
    private static void asks(String ask, boolean so) {
        String both = " then 5 else 6 end";
        says("if " + ask + both, so ? 5 : 6);
        says("if not " + ask + both, so ? 6 : 5);
        says("if not not " + ask + both, so ? 5 : 6);
        says("if " + ask + " and 1=1" + both, so ? 5 : 6);
        says("if 1=1 and " + ask + both, so ? 5 : 6);
        says("if " + ask + " and 1=2" + both, 6);
        says("if " + ask + " or 1=2" + both, so ? 5 : 6);
        says("if 1=2 or " + ask + both, so ? 5 : 6);
        says("if " + ask + " or 1=1" + both, 5);
        says("if not " + ask + " or " + ask + both, 5);
        says("if not " + ask + " and " + ask + both, 6);
    }

    private static void names() {
        sentence("NAMES: hour, number (of the CAR), load, kind, wide (1, if its feet are, else 0), worn in both; from, to (TRACKS), many (CARS on to) in moves; narrow, broad (WHEELS of both widths) in changes.");
        for (String name : OF_BOTH) {
            reads("moves " + name + ";changes " + name + ";");
        }
        for (String name : OF_MOVES) {
            reads("moves " + name + ";");
        }
        for (String name : OF_CHANGES) {
            reads("changes " + name + ";");
        }
        namesOfBoth();
        namesOfMoves();
        namesOfChanges();
    }

    private static void namesOfBoth() {
        for (int car = 0; car <= 4; car++) {
            RailsGrowWider x = new RailsGrowWider();
            for (int k = 0; k <= car; k++) {
                x.car(k % 4, 5 + k);
            }
            readAndRule(x, "moves number*10+kind;changes number*10+load;");
            due("number, kind", x.law(0, 1), car * 10 + car % 4);
            due("number, load", x.law(0, 0), car * 10 + 5 + car);
        }
        RailsGrowWider x = ofLoads(1, 9);
        readAndRule(x, "moves load*10+wide+worn*2;changes wide+worn*2;");
        due("LOAD 9, narrow, not WORN", x.law(0, 1), 90);
        x.move(0, 1);
        due("LOAD 1", x.law(0, 1), 10);
        x.hour(60);
        due("LOAD 1, WORN 9", x.law(0, 1), 28);
        due("WORN 9", x.law(1, 1), 18);
        haveWheels(x, 1, 1);
        x.change();
        due("wide, WORN 0", x.law(1, 1), 1);
        due("wide, WORN 0", x.law(1, 2), 91);
        RailsGrowWider y = atHour(9999);
        y.car(0, 1);
        readAndRule(y, "moves hour-9950;changes 9999-hour+5;");
        due("hour 9999", y.law(0, 1), 49);
        due("hour 9999", y.law(0, 0), 5);
        y.undo();
        due("hour 9998", y.law(0, 1), 48);
        RailsGrowWider z = ofLoads(1);
        readAndRule(z, "moves hour+7;");
        due("hour 0", z.law(0, 1), 7);
    }

    private static void namesOfMoves() {
        RailsGrowWider x = ofLoads(1, 2, 3, 4, 5);
        readAndRule(x, "moves from*30+to*10+many;");
        for (int many = 0; many <= 4; many++) {
            due("from 0, to 1, many", x.law(0, 1), 10 + many);
            x.move(0, 1);
        }
        due("from 1 to 0, empty now", x.law(1, 0), 30);
        due("from 1 to 2", x.law(1, 2), 50);
        x.by(NONE);
        x.change();
        x.move(1, 2);
        x.by(0);
        due("from 2 to 1, where 4 are", x.law(2, 1), 74);
        due("from 2 to 0", x.law(2, 0), 60);
        due("from 1 to 2, where one is", x.law(1, 2), 51);
    }

    private static void namesOfChanges() {
        RailsGrowWider x = ofLoads(1);
        readAndRule(x, "changes narrow*10+broad;");
        for (int narrow : new int[] {0, 1, 8, 9}) {
            for (int broad : new int[] {0, 1, 8, 9}) {
                haveWheels(x, 0, narrow);
                haveWheels(x, 1, broad);
                due("narrow, broad", x.law(0, 0), narrow * 10 + broad);
            }
        }
    }

    // ---- how a SUM is weighed

    private static void weighing() {
        sentence("From the left; / cuts towards 0, by 0 it is 0;");
        says("9-3-2", 4);
        says("9-(3-2)", 8);
        says("40/4/5", 2);
        says("2*7/4", 3);
        says("7/4*2", 2);
        int[][] cuts = {{0, 1, 0}, {1, 2, 0}, {2, 2, 1}, {3, 2, 1}, {4, 2, 2}, {9999, 9999, 1}, {9998, 9999, 0}};
        for (int[] cut : cuts) {
            says(cut[0] + "/" + cut[1], cut[2]);
            says("-" + cut[0] + "/" + cut[1], -cut[2]);
            says(cut[0] + "/-" + cut[1], -cut[2]);
            says("-" + cut[0] + "/-" + cut[1], cut[2]);
        }
        says("1/0", 0);
        says("-1/0", 0);
        says("0/0", 0);
        says("5+9/0*3", 5);
        says("9/(3-load)+1", 1);
        sentence("what is above 1000000 (below the same less) is that, at each step.");
        // 1000000 less 999950 is 50
        String fifty = "-9999*100-50";
        says("1000*1000" + fifty, 50);
        says("(1000*1000-1)" + fifty, 49);
        says("(1000*1000-1+1)" + fifty, 50);
        says("(1000*1000+1)" + fifty, 50);
        says("(1000*1000+1-1)" + fifty, 49);
        says("1001*1000" + fifty, 50);
        says("9999*9999" + fifty, 50);
        says("9999*9999*9999" + fifty, 50);
        says("(1000*1000)*(1000*1000)" + fifty, 50);
        says("(1000*1000+1000*1000)" + fifty, 50);
        says("(-1000*1000)*(-1000*1000)" + fifty, 50);
        says("-(-1000*1000)" + fifty, 50);
        String less = "+9999*100+50";
        says("-1000*1000" + less, -50);
        says("(-1000*1000-1)" + less, -50);
        says("(-1000*1000-1+1)" + less, -49);
        says("-1001*1000" + less, -50);
        says("(-9999*9999*9999)" + less, -50);
        says("(-1000*1000-1000*1000)" + less, -50);
        says("(1000*1000)*(-1000*1000)" + less, -50);
        says("-(1000*1000)" + less, -50);
        says("2*9999*9999/9999*1-100+99", 99);
        says("1000*1001/1000-990", 10);
        sentence("or and and look at both sides always, of if just the SUM that is chosen is asked.");
        says("if 1=1 or 1/0=9 then 5 else 1/0 end", 5);
        says("if 1=2 and 1/0=9 then 9999*9999 else 6 end", 6);
        says("if load=3 then 5 else 6 end+if load=4 then 10 else 20 end", 25);
        says("if if 1=2 then 1 else 2 end=2 then if 1=1 then 7 else 8 end else 9 end", 7);
    }

    // ---- FAULTS

    private static void faults() {
        theFirst();
        standsWrong();
        numbersTold();
        nineOpen();
        twice();
        namesOfOthers();
        theTwentyFifth();
    }

    private static void theFirst() {
        sentence("FAULTS, the first as TOKENS are come to, at the TOKEN's first byte (of the end at the length), of one the least:");
        faulty("hour 61;moves 1;moves 1;", 2, 5);
        faulty("moves 1;moves narrow;hour 61;", 4, 8);
        faulty("moves 1;  xyz hour 61;", 1, 10);
        faulty("change", 1, 6);
        faulty("change  ", 1, 8);
        faulty("moves 10000+", 2, 6);
        // 1 and 2 of one TOKEN; 1 and 5; 1 and 3; 1 and 6; 4 and 6
        faulty("change 10000;", 1, 7);
        faulty("moves 1 narrow;", 1, 8);
        faulty("moves ((((((((1(", 1, 15);
        faulty("moves ((((((((not", 1, 14);
        faulty("change;".repeat(24) + ";", 1, 168);
        faulty("change;".repeat(24) + "10000;", 1, 168);
        faulty("changes 1;" + "change;".repeat(23) + "changes", 4, 171);
    }

    private static void standsWrong() {
        sentence("1 it can't stand there, or is none.");
        for (String word : new String[] {"load", "by", "to", "of", "odd", "top", "if", "then", "else", "end", "or", "and", "not",
            "number", "kind", "wide", "worn", "from", "many", "narrow", "broad", "x", "1", "(", "-", "=", "?", "\t"}) {
            faulty(word + " 1;", 1, 0);
        }
        for (String word : new String[] {"moves", "changes", "car", "forbid", "move", "change", "lend", "by", "of", "then", "else",
            "end", "or", "and", "not", "x", ")", "=", "<=", "*", ";", "&", "\r"}) {
            faulty("moves " + word, 1, 6);
        }
        faulty("\u00ff", 1, 0);
        faulty("\u0000", 1, 0);
        faulty("change;\u0080", 1, 7);
    }

    private static void numbersTold() {
        sentence("2 a NUMBER that isn't one of those told (above 9999; KINDS 0 .. 3, LOAD, of lend 1 .. 9, TRACKS 0 .. 2, wide 0, 1, HOURS 1 .. 60).");
        bounded("moves ", ";", 0, 9999);
        bounded("changes 1+", "*2;", 0, 9999);
        bounded("car ", " load 1;", 0, 3);
        bounded("car 0 load ", ";", 1, 9);
        bounded("forbid ", " by 0;", 0, 3);
        bounded("forbid 0 by ", ";", 0, 3);
        bounded("move ", " to 0;", 0, 2);
        bounded("move 0 to ", ";", 0, 2);
        bounded("lend ", " of 0;", 1, 9);
        bounded("lend 1 of ", ";", 0, 1);
        bounded("hour ", ";", 1, 60);
    }

    private static void bounded(String ahead, String behind, int least, int most) {
        reads(ahead + least + behind);
        reads(ahead + most + behind);
        if (least > 0) {
            faulty(ahead + (least - 1) + behind, 2, ahead.length());
        }
        faulty(ahead + (most + 1) + behind, 2, ahead.length());
        faulty(ahead + 99999 + behind, 2, ahead.length());
        faulty(ahead + "4294967296" + behind, 2, ahead.length());
    }

    private static void nineOpen() {
        sentence("3 the 9th of ( not odd top if and - (of one ONE) that are open around one another (at it).");
        reads("moves ((((((((1))))))));");
        faulty("moves (((((((((1)))))))));", 3, 14);
        reads("moves --------1;");
        faulty("moves ---------1;", 3, 14);
        reads("moves " + "odd ".repeat(8) + "1;");
        faulty("moves " + "odd ".repeat(9) + "1;", 3, 38);
        reads("moves " + "top ".repeat(8) + "1;");
        faulty("moves " + "top ".repeat(9) + "1;", 3, 38);
        reads("moves if " + "not ".repeat(7) + "1=1 then 1 else 1 end;");
        faulty("moves if " + "not ".repeat(8) + "1=1 then 1 else 1 end;", 3, 37);
        String closed = "=1 then 1 else 1 end";
        reads("moves " + "if ".repeat(8) + "1" + closed.repeat(8) + ";");
        faulty("moves " + "if ".repeat(9) + "1" + closed.repeat(9) + ";", 3, 30);
        // each sort as the ninth, behind eight of all sorts
        String eight = "moves odd(-top if not(odd ";
        for (String ninth : new String[] {"(", "odd", "top", "if", "-"}) {
            faulty(eight + ninth, 3, eight.length());
        }
        faulty(eight, 1, eight.length());
        faulty("moves (((((((if not 1=1", 3, 16);
        reads("moves ((((((if not 1=1 then 1 else 1 end))))));");
        // in each part of an if
        for (String part : new String[] {"if ", "if 1=", "if 1=1 and ", "if 1=1 or ", "if 1=1 then ", "if 1=1 then 1 else "}) {
            String ahead = "moves " + part;
            faulty(ahead + "((((((((", 3, ahead.length() + 7);
            faulty(ahead + "(((((((", 1, ahead.length() + 7);
        }
        // closed ones count no more; of one ONE, - is closed behind it, that of a SUM counts not
        reads("moves ((((((((1))))))))+((((((((1))))))));");
        reads("moves --------1--------1;changes --------1;");
        reads("moves odd odd odd odd odd odd odd odd 1*odd odd odd odd odd odd odd odd 1;");
        reads("moves if not not not 1=1 and not not not not not not not 1=1 then 1 else 1 end;");
        reads("moves if 1=1 then 1 else 1 end+((((((((1))))))));");
        reads("moves 1-1-1-1-1-1-1-1-1-1-1;");
        faulty("moves 1---------1-" + "(".repeat(9), 3, 26);
        reads("moves (((((((1-1-(1)-1)))))));");
    }

    private static void twice() {
        sentence("4 moves, changes for the second time (at it).");
        reads("moves 1;changes 2;");
        faulty("moves 1;moves", 4, 8);
        faulty("moves 1;  moves 1;", 4, 10);
        faulty("changes 1;changes", 4, 10);
        faulty("changes 1;moves 1;changes 1;", 4, 18);
        // of one TEXT: the next one may have them again
        RailsGrowWider x = ofLoads(1);
        due("text", read(x, "moves 1;changes 1;"), 0);
        due("text", read(x, "moves 2;changes 3;"), 1);
        due("with a FAULT", read(x, "moves 1;changes 1;?"), NONE);
        due("text", read(x, "moves 4;changes 5;"), 2);
        x.by(2);
        due("moves", x.law(0, 1), 4);
        due("changes", x.law(0, 0), 5);
    }

    private static void namesOfOthers() {
        sentence("5 a NAME that isn't of that CLAUSE (at it).");
        for (String name : OF_CHANGES) {
            faulty("moves " + name + ";", 5, 6);
            faulty("changes 1;moves 1+" + name + ";", 5, 18);
            faulty("moves 1;changes " + name + ";moves", 4, 17 + name.length());
        }
        for (String name : OF_MOVES) {
            faulty("changes " + name + ";", 5, 8);
            faulty("moves 1;changes odd " + name + ";", 5, 20);
            faulty("moves " + name + ";changes ((((((((" + name + "))))))));", 5, 23 + name.length());
        }
        faulty("car 0 load narrow;", 1, 11);
        faulty("hour from;", 1, 5);
    }

    private static void theTwentyFifth() {
        sentence("6 the 25th CLAUSE (at its first TOKEN).");
        String all = "change;".repeat(24);
        reads(all);
        reads(all + "  \n");
        for (String first : new String[] {"moves", "changes", "car", "forbid", "move", "change", "lend", "hour"}) {
            faulty(all + first, 6, 168);
            faulty(all + "\n " + first + " 1;", 6, 170);
        }
        faulty(all + "change;change;", 6, 168);
        faulty("change;".repeat(23) + "hour 61;change;", 2, 166);
        faulty("change;".repeat(23) + "change", 1, 167);
    }

    // ---- THE TEXT, PLAYED

    private static void theText() {
        sentence("THE TEXT (told; at first none) rules.");
        RailsGrowWider x = ofLoads(1);
        due("none", x.about(2), NONE);
        due("text", read(x, "moves 0;changes 0;"), 0);
        due("it doesn't rule yet", x.about(2), NONE);
        due("move", x.move(0, 1), 0);
        x.by(0);
        due("move", x.move(1, 0), NONE);
        due("change", x.change(), NONE);
        x.by(NONE);
        due("move", x.move(1, 0), 0);
        lawBounds();
        played();
        hoursThatCanPass();
    }

    private static void lawBounds() {
        sentence("moves, changes: -99 at least, 99 at most; without: 1.");
        int[][] each = {{98, 98}, {99, 99}, {100, 99}, {9999, 99}, {0, 0}, {1, 1}};
        for (int[] one : each) {
            RailsGrowWider x = ofLoads(1);
            readAndRule(x, "moves " + one[0] + ";changes -" + one[0] + ";");
            due("moves " + one[0], x.law(0, 1), one[1]);
            due("changes -" + one[0], x.law(0, 0), -one[1]);
            readAndRule(x, "changes " + one[0] + ";moves -" + one[0] + ";");
            due("changes " + one[0], x.law(0, 0), one[1]);
            due("moves -" + one[0], x.law(0, 1), -one[1]);
        }
        RailsGrowWider y = ofLoads(1);
        due("without a TEXT", y.law(0, 1), 1);
        due("without a TEXT", y.law(0, 0), 1);
        readAndRule(y, "");
        due("the empty TEXT", y.law(0, 1), 1);
        due("the empty TEXT", y.law(0, 0), 1);
        readAndRule(y, "moves 5;");
        due("without changes", y.law(0, 0), 1);
        readAndRule(y, "changes 5;");
        due("without moves", y.law(0, 1), 1);
    }

    private static void played() {
        sentence("PLAYED by a TEXT: its CLAUSES but laws, in their order, as by hand; one that can't be ends it");
        RailsGrowWider x = new RailsGrowWider();
        read(x, "moves 0;changes 0;car 0 load 1;forbid 0 by 0;move 0 to 1;lend 1 of 1;change;hour 2;");
        due("its own laws don't rule", x.played(0), NONE);
        due("MOVED, LENT, CHANGED, two HOURS", x.about(3), 5);
        due("wide", x.of(0, 4), 1);
        due("none rules", x.about(2), NONE);
        x.by(0);
        due("by the law that rules", x.played(0), 4);
        due("the second CAR", x.about(0), 2);
        x.by(NONE);
        due("a third beside a second", x.played(0), 4);
        due("CARS", x.about(0), 3);
        x.forbid(0, 0, false);
        due("forbids again", x.played(0), 4);
        due("the fifth CAR", x.played(0), 4);
        due("no sixth one", x.played(0), 2);
        due("CARS", x.about(0), 5);
        sentence("its number among all CLAUSES (from 0); what was done stays.");
        for (int ahead = 0; ahead <= 23; ahead++) {
            RailsGrowWider y = new RailsGrowWider();
            read(y, "hour 1;".repeat(ahead) + "change;" + "hour 1;".repeat(23 - ahead));
            due("change can't be", y.played(0), ahead);
            due("HOURS passed", y.is(0), ahead);
            due("STEPS", y.about(3), ahead);
        }
        RailsGrowWider z = new RailsGrowWider();
        read(z, "moves 1;hour 1;changes 1;lend 9 of 0;hour 1;");
        due("laws count", z.played(0), 3);
        due("HOUR", z.is(0), 1);
        due("WHEELS", z.is(2), 1);
        everyClauseThatCannotBe();
    }

    private static void everyClauseThatCannotBe() {
        RailsGrowWider x = ofLoads(1, 2, 3, 4, 5);
        String[] cannot = {"car 0 load 1;", "move 0 to 0;", "move 1 to 0;", "move 0 to 2;", "change;", "lend 9 of 0;", "lend 9 of 1;"};
        for (String clause : cannot) {
            x.back();
            for (int k = 0; k < 5; k++) {
                x.car(0, 1);
            }
            due("text", read(x, "forbid 0 by 1;" + clause + "hour 1;"), 0);
            due(clause + " can't be", x.played(0), 1);
            due("nothing behind it is done", x.is(0), 0);
            due("no STEP", x.about(3), 0);
        }
    }

    private static void hoursThatCanPass() {
        sentence("(of so many HOURS those that can pass do):");
        for (int left = 0; left <= 3; left++) {
            RailsGrowWider x = atHour(9999 - left);
            int steps = x.about(3);
            int text = read(x, "moves 1;hour 2;lend 1 of 0;");
            haveWheels(x, 0, 0);
            int lent = x.about(3) - steps;
            due("2 of " + left, x.played(text), left >= 2 ? NONE : 1);
            due("HOUR", x.is(0), Math.min(9999, 9999 - left + 2));
            due("STEPS", x.about(3), Math.min(30, steps + lent + Math.min(2, left) + (left >= 2 ? 1 : 0)));
        }
    }
}
