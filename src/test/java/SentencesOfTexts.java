/** What the document says about texts, and promises 20 to 23. */
final class SentencesOfTexts extends Sentences {
    private static final String DIGITS = "0123456789";

    private SentencesOfTexts() {
    }

    static void all() {
        put();
        putAtItsBound();
        wipe();
        orders();
        numbers();
        fault();
        carryOutEachKind();
        carryOutToTheFirstError();
        carryOutIsOneChange();
    }

    private static CoughLamps padOfLength(int length) {
        CoughLamps x = new CoughLamps();
        putText(x, "a".repeat(length));
        countDue("pad", x, 17, length);
        return x;
    }

    // ---- put

    private static void put() {
        holds(20, "Appends characters to the pad.", () -> {
            CoughLamps x = new CoughLamps();
            due("put(w1)", x.put(pack("w1")), 2);
            due("put(2/3)", x.put(pack("2/3")), 5);
            due("put(>)", x.put('>'), 6);
            due("put(45*6)", x.put(pack("45*6")), 10);
            due("carryOut()", x.carryOut(), 1);
            walkerDue("behind those ahead", x, 0, 0, 12);
            walkerDue("behind those ahead", x, 0, 1, 3);
            walkerDue("behind those ahead", x, 0, 3, 45);
            due("behind those ahead", x.homeIn(0), 17);
        });
        holds(20, "They are given as a number: its lowest 8 bits are the last character, the next 8 bits the one before, and so on;", () -> {
            CoughLamps x = new CoughLamps();
            due("t7", x.put('t' * 256 + '7'), 2);
            due("t7", x.fault(), NONE);
            due("t7", x.carryOut(), 1);
            countDue("t7", x, 0, 7);
            due("7t", x.put('7' * 256 + 't'), 2);
            due("7t", x.fault(), 0);
            x.wipe();
            due("eight of them", x.put(0x7739302F343E3132L), 8);
            due("eight of them", x.carryOut(), 1);
            walkerDue("w90/4>12", x, 0, 0, 90);
            walkerDue("w90/4>12", x, 0, 1, 4);
            walkerDue("w90/4>12", x, 0, 3, 12);
        });
        holds(20, "8 bits that are 0 mean that there are no more characters, and everything above them has to be 0, too.", () -> {
            for (int signs = 1; signs <= 7; signs++) {
                long number = pack("aaaaaaa".substring(0, signs));
                due(signs + " characters", new CoughLamps().put(number), signs);
                for (int bit = 8 * signs + 8; bit < 64; bit++) {
                    due(signs + " characters, and bit " + bit, new CoughLamps().put(number | 1L << bit), BAD_VALUE);
                }
                due("the lowest 8 bits are 0", new CoughLamps().put(number << 8), BAD_VALUE);
                due("the lowest bits are 0", new CoughLamps().put(number << 64 - 8 * signs), BAD_VALUE);
            }
        });
        holds(20, "- `characters`: 1 to 8 characters", () -> {
            CoughLamps x = new CoughLamps();
            int length = 0;
            for (int signs = 1; signs <= 8; signs++) {
                length += signs;
                due(signs + " characters", x.put(pack("t1;t2;t3".substring(0, signs))), length);
            }
            due("0 characters", x.put(0), BAD_VALUE);
            countDue("all of them", x, 17, 36);
        });
    }

    private static void putAtItsBound() {
        holds(20, "Returns the length of the pad then; BAD_VALUE if there is no character,", () -> {
            CoughLamps x = padOfLength(79);
            due("put(0)", x.put(0), BAD_VALUE);
            due("put(a)", x.put('a'), 80);
            due("put(0)", x.put(0), BAD_VALUE);
            due("put(0) on an empty pad", new CoughLamps().put(0), BAD_VALUE);
        });
        holds(20, "a code is not 33 to 126,", () -> {
            for (int place = 0; place < 8; place++) {
                long others = pack("aaaaaaaa") & ~(255L << 8 * place);
                for (int code = 1; code <= 255; code++) {
                    due("code " + code + " at place " + place, new CoughLamps().put(others | (long) code << 8 * place),
                            code >= 33 && code <= 126 ? 8 : BAD_VALUE);
                }
            }
            for (int code = 0; code <= 256; code++) {
                due("code " + code + " alone", new CoughLamps().put(code), code >= 33 && code <= 126 ? 1 : BAD_VALUE);
            }
        });
        holds(20, "or a bit above 8 bits that are 0 is not 0;", () -> {
            CoughLamps x = new CoughLamps();
            due("bit 16", x.put(1L << 16 | 'a'), BAD_VALUE);
            due("bit 63", x.put(1L << 63 | 'a'), BAD_VALUE);
            due("bit 63 above seven", x.put(1L << 63 | pack("aaaaaa")), BAD_VALUE);
            due("a character above", x.put((long) 'a' << 16 | 'a'), BAD_VALUE);
            due("bit 63 alone", x.put(Long.MIN_VALUE), BAD_VALUE);
            due("put(-1)", x.put(-1), BAD_VALUE);
            due("all bits but one", x.put(Long.MAX_VALUE), BAD_VALUE);
            countDue("refused", x, 17, 0);
        });
        holds(20, "TOO_MANY if the pad would be longer than 80.", () -> {
            for (int length = 72; length <= 80; length++) {
                for (int signs = 1; signs <= 8; signs++) {
                    int due = length + signs <= 80 ? length + signs : TOO_MANY;
                    due(length + " and " + signs, padOfLength(length).put(pack("bbbbbbbb".substring(0, signs))), due);
                }
            }
            CoughLamps x = padOfLength(80);
            due("full", x.put('a'), TOO_MANY);
            x.wipe();
            due("empty again", x.put('a'), 1);
        });
        holds(20, IN_ORDER, () -> {
            CoughLamps x = padOfLength(80);
            due("no character, and too many", x.put(0), BAD_VALUE);
            due("a bad code, and too many", x.put(32), BAD_VALUE);
            due("a bad code, and too many", x.put(127), BAD_VALUE);
            due("a bit above, and too many", x.put(1L << 16 | 'a'), BAD_VALUE);
            due("too many", x.put('a'), TOO_MANY);
            due("a bad code and 77 characters", padOfLength(77).put(pack("aaa ")), BAD_VALUE);
        });
        holds(20, CHANGES_NOTHING, () -> {
            refused("put(0)", BAD_VALUE, Sentences::busyStreet, x -> x.put(0));
            refused("put() of a bad code behind a good one", BAD_VALUE, Sentences::busyStreet, x -> x.put(pack(";t1 ")));
            refused("put() of a good code behind a bad one", BAD_VALUE, Sentences::busyStreet, x -> x.put(pack(" ;t1")));
            refused("put() of 8 on 73", TOO_MANY, () -> padOfLength(73), x -> x.put(pack("bbbbbbbb")));
            CoughLamps x = new CoughLamps();
            putText(x, "t7");
            x.put(pack("12 "));
            due("the text stays", x.carryOut(), 1);
            countDue("the text stays", x, 0, 7);
        });
    }

    private static void wipe() {
        holds(21, "Empties the pad, and returns the length that it had.", () -> {
            for (int length : new int[] {0, 1, 8, 79, 80}) {
                CoughLamps x = padOfLength(length);
                due("wipe() of " + length, x.wipe(), length);
                countDue("empty", x, 17, 0);
                countDue("no change", x, 18, 0);
                due("the fault of an empty text", x.fault(), 0);
                due("wipe() of nothing", x.wipe(), 0);
                due("carryOut() of nothing", x.carryOut(), BAD_TEXT);
            }
            CoughLamps y = padOfLength(80);
            y.wipe();
            due("it begins anew", putText(y, "t3"), 2);
            due("it begins anew", y.carryOut(), 1);
            countDue("it begins anew", y, 0, 3);
            CoughLamps z = busyStreet();
            int[] before = look(z);
            due("wipe()", z.wipe(), 5);
            same("the street stays", before, look(z));
            countDue("no change", z, 18, 5);
        });
    }

    // ---- the grammar

    /** The text ends too early, and behind it none but these signs can stand. */
    private static void endsEarly(String text, String next) {
        due("fault of " + text, faultOf(text), text.length());
        stand(text, next);
    }

    /** The text may end here, and behind it none but these signs can stand. */
    private static void mayEnd(String text, String next) {
        due("fault of " + text, faultOf(text), NONE);
        stand(text, next);
    }

    private static void stand(String text, String next) {
        for (char sign = 33; sign <= 126; sign++) {
            int fault = faultOf(text + sign);
            if (next.indexOf(sign) < 0) {
                due("fault of " + text + sign, fault, text.length());
                due("fault of " + text + sign + ";t1", faultOf(text + sign + ";t1"), text.length());
            } else {
                Check.holds("the last sign of " + text + sign + " can stand there", fault == NONE || fault == text.length() + 1);
            }
        }
    }

    private static void orders() {
        holds(22, "text = order { \";\" order }", () -> {
            endsEarly("", "wcmt");
            mayEnd("c0", ";");
            endsEarly("c0;", "wcmt");
            mayEnd("c0;m0=0", ";");
            endsEarly("c0;m0=0;", "wcmt");
            mayEnd("c0;m0=0;t0;w0/0;w0/0>0;w0/0>0*0", ">;");
            endsEarly("c0;m0=0;t0;w0/0;w0/0>0;w0/0>0*0;", "wcmt");
        });
        holds(22, "order = \"w\" number \"/\" number { \">\" number [ \"*\" number ] }", () -> {
            endsEarly("w", DIGITS);
            endsEarly("w0", "/");
            endsEarly("w7", DIGITS + "/");
            endsEarly("w7/", DIGITS);
            mayEnd("w7/0", ">;");
            mayEnd("w7/7", DIGITS + ">;");
            endsEarly("w7/7>", DIGITS);
            mayEnd("w7/7>0", "*>;");
            mayEnd("w7/7>7", DIGITS + "*>;");
            endsEarly("w7/7>7*", DIGITS);
            mayEnd("w7/7>7*0", ">;");
            mayEnd("w7/7>7*7", DIGITS + ">;");
            endsEarly("w7/7>7*7>", DIGITS);
            mayEnd("w7/7>7*7>7", DIGITS + "*>;");
            mayEnd("w7/7>7>7*7>7", DIGITS + "*>;");
            due("38 goals fill the pad", faultOf("w0/0" + ">0".repeat(38)), NONE);
        });
        holds(22, "| \"c\" number", () -> {
            endsEarly("c", DIGITS);
            mayEnd("c0", ";");
            mayEnd("c7", DIGITS + ";");
        });
        holds(22, "| \"m\" number \"=\" mode", () -> {
            endsEarly("m", DIGITS);
            endsEarly("m0", "=");
            endsEarly("m7", DIGITS + "=");
            endsEarly("m7=", "012");
            for (int mode = 0; mode <= 2; mode++) {
                mayEnd("m7=" + mode, ";");
            }
        });
        holds(22, "| \"t\" number", () -> {
            endsEarly("t", DIGITS);
            mayEnd("t0", ";");
            mayEnd("t7", DIGITS + ";");
        });
    }

    private static void numbers() {
        holds(22, "A number is 0 to 999, without leading zeros.", () -> {
            String[] ahead = {"c", "t", "m", "w", "w1/", "w1/1>", "w1/1>1*"};
            String[] behind = {"", "", "=1", "/1", "", "", ""};
            for (int i = 0; i < ahead.length; i++) {
                for (String number : new String[] {"0", "1", "9", "10", "99", "100", "999"}) {
                    due("fault of " + ahead[i] + number, faultOf(ahead[i] + number + behind[i]), NONE);
                }
                for (String number : new String[] {"00", "01", "09", "012", "0999"}) {
                    due("fault of " + ahead[i] + number, faultOf(ahead[i] + number + behind[i]), ahead[i].length() + 1);
                }
                for (String number : new String[] {"1000", "9990", "9999", "10000"}) {
                    due("fault of " + ahead[i] + number, faultOf(ahead[i] + number + behind[i]), ahead[i].length() + 3);
                }
                for (String number : new String[] {"-1", "+1", "x"}) {
                    due("fault of " + ahead[i] + number, faultOf(ahead[i] + number + behind[i]), ahead[i].length());
                }
            }
        });
    }

    private static void fault() {
        holds(22, "Returns the fault of the pad, NONE if there is none.", () -> {
            CoughLamps x = new CoughLamps();
            int[] faults = {1, NONE, 3, 4, NONE};
            String text = "t1;t2";
            for (int i = 0; i < text.length(); i++) {
                x.put(text.charAt(i));
                due("fault of " + text.substring(0, i + 1), x.fault(), faults[i]);
                due("and again", x.fault(), faults[i]);
            }
            changesNothing("fault()", Sentences::busyStreet, y -> y.fault());
            countDue("the pad stays", x, 17, 5);
            due("the pad stays", x.carryOut(), 2);
        });
        holds(22, "The fault is the index of the first character that cannot stand at its place when the text is read from left to right "
                + "(also of a digit by which a number would be above 999);", () -> {
            due("the first character", faultOf("x"), 0);
            due("a sign that stands elsewhere", faultOf(";t1"), 0);
            due("an upper case one", faultOf("T1"), 0);
            due("the first of several", faultOf("t1;;t01;x"), 3);
            due("though the text ends too early", faultOf("t1x"), 2);
            due("the fourth digit", faultOf("t9999"), 4);
            due("the fourth digit", faultOf("t1000;x"), 4);
            due("the last character of 80", faultOf("c1;".repeat(26) + "cx"), 79);
            due("a fourth digit as the last character of 80", faultOf("c1;".repeat(25) + "c1000"), 79);
            due("the first of 80", faultOf("1".repeat(80)), 0);
        });
        holds(22, "if there is none and the text ends too early (also if it is empty), it is the length of the text.", () -> {
            due("empty", faultOf(""), 0);
            due("an order without a number", faultOf("t"), 1);
            due("behind a ;", faultOf("t1;"), 3);
            due("a goal without a step", faultOf("w1/1>"), 5);
            due("a full pad", faultOf("c1;".repeat(26) + "c1"), NONE);
            due("a full pad that ends with a ;", faultOf("c1;".repeat(25) + "c123;"), 80);
            due("a full pad that ends with an order's letter", faultOf("c12;" + "c1;".repeat(25) + "c"), 80);
            due("a full pad that ends with a >", faultOf("w10/1" + ">1".repeat(37) + ">"), 80);
            due("a full pad that ends with a *", faultOf("w0/1" + ">1".repeat(37) + "*"), 79);
            due("a full pad that ends with a mode", faultOf("c1;".repeat(25) + "m12=2"), NONE);
            due("a full pad that ends with a =", faultOf("c1;".repeat(25) + "m123="), 80);
        });
    }

    // ---- carryOut

    private static void carryOutEachKind() {
        holds(23, "Carries the orders of the pad out, one after the other,", () -> {
            CoughLamps x = lampsAt(10, 20);
            due("text", carried(x, "c0;t1;m1=2;t1;w50/2;w60/1>61;t3"), 7);
            CoughLamps y = lampsAt(10, 20);
            y.cough(0);
            y.ticks(1);
            y.mend(1, CoughLamps.BROKEN);
            y.ticks(1);
            y.walker(50, 2);
            y.walker(60, 1);
            y.goal(1, 61, 0);
            y.ticks(3);
            same("as by calls", look(y), look(x));
            CoughLamps first = new CoughLamps();
            due("the walker comes first", carried(first, "w50/1;t5"), 2);
            walkerDue("the walker comes first", first, 0, 6, 5);
            CoughLamps later = new CoughLamps();
            due("the walker comes later", carried(later, "t5;w50/1"), 2);
            walkerDue("the walker comes later", later, 0, 6, 0);
        });
        holds(23, "\"w\": walker(), at a step, with a pace, and then goal() of this walker for each \">\", with a step and its pause "
                + "(0 without \"*\");", () -> {
            CoughLamps x = new CoughLamps();
            due("no goal", carried(x, "w99/4"), 1);
            walkerDue("no goal", x, 0, 0, 99);
            walkerDue("no goal", x, 0, 1, 4);
            walkerDue("no goal", x, 0, 3, NONE);
            walkerDue("no goal", x, 0, 4, 0);
            due("6 goals", carried(x, "w10/3>20>0*2>99*20>98*0>97>0"), 1);
            CoughLamps y = new CoughLamps();
            y.walker(99, 4);
            y.walker(10, 3);
            y.goal(1, 20, 0);
            y.goal(1, 0, 2);
            y.goal(1, 99, 20);
            y.goal(1, 98, 0);
            y.goal(1, 97, 0);
            y.goal(1, 0, 0);
            for (int ticks = 0; ticks < 12; ticks++) {
                same("as by calls", look(y), look(x));
                due("as by calls", x.homeIn(1), y.homeIn(1));
                x.ticks(10);
                y.ticks(10);
            }
            walkerDue("home", x, 1, 2, 1);
        });
        holds(23, "\"c\": cough() of a lamp;", () -> {
            CoughLamps x = lampsAt(10, 20, 90);
            due("c0", carried(x, "c0"), 1);
            lampDue("coughed", x, 0, 8, 1);
            lampDue("heard", x, 1, 9, 1);
            due("heard by nobody, which is no error", carried(x, "c2;c2"), 2);
            lampDue("coughed", x, 2, 8, 2);
        });
        holds(23, "\"m\": mend() of a lamp, a mode is 0, 1 or 2;", () -> {
            CoughLamps x = lampsAt(10, 20);
            for (int mode = 2; mode >= 0; mode--) {
                due("m1=" + mode, carried(x, "m1=" + mode), 1);
                lampDue("how it is", x, 1, 3, mode);
                lampDue("the other one", x, 0, 3, CoughLamps.WELL);
            }
        });
        holds(23, "\"t\": so many ticks().", () -> {
            CoughLamps x = new CoughLamps();
            due("t1", carried(x, "t1"), 1);
            countDue("t1", x, 0, 1);
            due("t200", carried(x, "t200"), 1);
            countDue("t200", x, 0, 201);
            due("t0", carried(x, "t0"), 0);
            due("t201", carried(x, "t201"), 0);
            countDue("neither", x, 0, 201);
        });
        holds(23, "The pad is a text of at most 80 characters, a row of orders:", () -> {
            CoughLamps x = new CoughLamps();
            due("80 characters", putText(x, "t1;".repeat(26) + "t1"), 80);
            due("none more", x.put('1'), TOO_MANY);
            due("27 orders", x.carryOut(), 27);
            countDue("27 ticks", x, 0, 27);
            due("the longest order", carried(x, "w1/1" + ">1".repeat(38)), 0);
            walkerDue("6 goals, and no more", x, 0, 4, 6);
            due("the most ticks", carried(x, "t200;".repeat(15) + "t200"), 16);
            countDue("16 times 200 ticks", x, 0, 3227);
        });
    }

    private static void carryOutToTheFirstError() {
        holds(23, "up to the first one that returns an error (of a \"w\": walker() or some goal(); what was done ahead of that stays),", () -> {
            String[] errors = {"c2", "c999", "m2=0", "m999=2", "t0", "t201", "t999", "w100/1", "w1/0", "w1/5", "w999/999"};
            for (String error : errors) {
                CoughLamps x = lampsAt(10, 20);
                due("t1;" + error + ";t1", carried(x, "t1;" + error + ";t1"), 1);
                countDue("ahead of " + error, x, 0, 1);
                countDue("no walker came", x, 3, 0);
                due(error + ";t1", carried(x, error + ";t1"), 0);
                countDue("none ahead of " + error, x, 0, 1);
            }
            CoughLamps y = lampsAt(10);
            due("a broken one cannot cough", carried(y, "m0=2;c0;m0=0"), 1);
            lampDue("what was done ahead stays", y, 0, 3, CoughLamps.BROKEN);
            String[] badGoals = {">100", ">5*21", ">100*21", ">999", ">5*999"};
            for (String bad : badGoals) {
                CoughLamps x = new CoughLamps();
                due("w1/1" + bad, carried(x, "w1/1" + bad + ";t1"), 0);
                countDue("the walker stays", x, 3, 1);
                walkerDue("no goal is told", x, 0, 4, 0);
                due("w1/1>2*3>4" + bad, carried(x, "t1;w1/1>2*3>4" + bad + ">5;t1"), 1);
                walkerDue("the goals ahead stay, and none behind is told", x, 1, 4, 2);
                countDue("no tick more", x, 0, 1);
            }
            CoughLamps z = new CoughLamps();
            due("7 goals", carried(z, "w1/1>1>2>3>4>5>6>7;t1"), 0);
            walkerDue("6 of them", z, 0, 4, 6);
            due("6 goals", carried(z, "w1/1>1>2>3>4>5>6;t1"), 2);
            due("8 walkers", carried(z, "w0/1;w0/1;w0/1;w0/1;w0/1;w0/1;w0/1;t1"), 6);
            countDue("8 walkers", z, 3, 8);
            countDue("one tick", z, 0, 1);
        });
        holds(23, "and empties the pad.", () -> {
            CoughLamps x = lampsAt(10);
            for (String text : new String[] {"t1", "t1;c9;t1", "c9", "w1/1>100", "t1;".repeat(26) + "t1"}) {
                carried(x, text);
                countDue("behind " + text, x, 17, 0);
                due("behind " + text, x.fault(), 0);
                due("behind " + text, x.carryOut(), BAD_TEXT);
                due("it begins anew", x.put('t'), 1);
            }
        });
    }

    private static CoughLamps badText(String text) {
        CoughLamps x = busyStreet();
        x.wipe();
        putText(x, text);
        return x;
    }

    private static void carryOutIsOneChange() {
        holds(23, "This is a change (one, with all of them; also if none is carried out).", () -> {
            for (String text : new String[] {"t1", "t1;m0=1;c1;w1/1>5*2>7;t20", "c9", "t0;t1", "w100/1", "w1/1>100", "w1/1;c9"}) {
                isChange("carryOut() of " + text, () -> badText(text), x -> x.carryOut());
            }
            CoughLamps y = new CoughLamps();
            due("none is carried out", carried(y, "c0"), 0);
            countDue("one change", y, 18, 1);
            due("27 orders", carried(y, "t1;".repeat(26) + "t1"), 27);
            countDue("one change", y, 18, 2);
            due("undo()", y.undo(), 1);
            countDue("all of them are undone", y, 0, 0);
            countDue("the pad is empty all the same", y, 17, 0);
        });
        holds(23, "Returns how many orders were carried out whole;", () -> {
            CoughLamps x = lampsAt(10);
            due("one", carried(x, "t1"), 1);
            due("none", carried(x, "c1"), 0);
            due("three of three", carried(x, "t1;t1;t1"), 3);
            due("two of three", carried(x, "t1;t1;c1"), 2);
            due("a walker without the last goal is not whole", carried(x, "t1;w1/1>2>100"), 1);
            due("27 of 27", carried(x, "c0;".repeat(26) + "c0"), 27);
            due("26 of 27", carried(x, "c0;".repeat(26) + "c1"), 26);
        });
        holds(23, "BAD_TEXT if the pad has a fault (then it stays).", () -> {
            due("an empty pad", new CoughLamps().carryOut(), BAD_TEXT);
            CoughLamps x = new CoughLamps();
            putText(x, "t1;t");
            due("it ends too early", x.carryOut(), BAD_TEXT);
            countDue("it stays", x, 17, 4);
            countDue("none is carried out", x, 0, 0);
            x.put('2');
            due("it goes on", x.carryOut(), 2);
            countDue("both are carried out", x, 0, 3);
            putText(x, "t1;x");
            due("a character that cannot stand there", x.carryOut(), BAD_TEXT);
            due("and again", x.carryOut(), BAD_TEXT);
            countDue("it stays", x, 17, 4);
            due("the fault stays", x.fault(), 3);
        });
        holds(23, CHANGES_NOTHING, () -> {
            for (String text : new String[] {"", "t1;", "t1;t1;x", "w1/1>", "t1000", "m0=3"}) {
                refused("carryOut() of " + text, BAD_TEXT, () -> badText(text), x -> x.carryOut());
            }
        });
    }
}
