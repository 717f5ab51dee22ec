/** The sentences of the document that name a boundary of the text, of its syntax and of what running it does. */
public final class BoundariesOfText {
    private static final String LETTERS = "abcdefgh";
    private static final String DIGITS = "0123456789";
    private static final String SIGNS = "*x#+->";

    private static void run(String text, int want) {
        HalfTables x = Made.ofText(text);
        Due.answer("run() of " + shown(text), x.run(), want);
    }

    private static String shown(String text) {
        StringBuilder shown = new StringBuilder();
        for (char c : text.toCharArray()) {
            shown.append(c < ' ' || c > '~' ? "\\" + (int) c : String.valueOf(c));
        }
        return shown.toString();
    }

    /** The text is refused at this position, and the run changes nothing. */
    private static void errorAt(String text, int position) {
        run(text, -10 - position);
    }

    private static void register(HalfTables x, String text, int register, int want) {
        Made.type(x, text);
        x.run();
        Due.answer("register(" + register + ") after " + text, x.register(register), want);
    }

    private static void lengths() {
        Due.sentence("The text has at most 100 bytes");
        HalfTables x = new HalfTables();
        Due.answer("clearText() of a new object", x.clearText(), 0);
        for (int i = 1; i <= 100; i++) {
            Due.answer("append of byte " + i, x.append('a'), i);
        }
        Due.answer("clearText()", x.clearText(), 100);
        Due.answer("clearText() again", x.clearText(), 0);
        Due.answer("append()", x.append('a'), 1);
        Due.answer("clearText()", x.clearText(), 1);
        Due.sentence("IllegalStateException if the text has 100 bytes");
        Due.Maker full = () -> Made.ofText("a=1;".repeat(25));
        Due.refusedWith("append(v) to 100 bytes", Due.STATE, full, (y, v) -> y.append(v), 0, 59, 127);
        Due.refusedWith("append(v) to 100 bytes, when busy", Due.STATE, BoundariesOfText::busyAndFull,
            (y, v) -> y.append(v), 0, 59, 127);
        Due.answer("append() to 99 bytes", Made.ofText("a=1;".repeat(24) + "b=2").append(';'), 100);
        Due.sentence("the byte, 0 to 127");
        Due.answer("append(0)", new HalfTables().append(0), 1);
        Due.answer("append(127)", new HalfTables().append(127), 1);
        int[] bad = {Integer.MIN_VALUE, -1, 128, 129, 256 + 'a', Integer.MAX_VALUE};
        Due.refusedInAll("append(v)", Due.ARGUMENT, (y, v) -> y.append(v), bad);
        Due.refusedWith("append(v) to 99 bytes", Due.ARGUMENT, () -> Made.ofText("a=1;".repeat(24) + "b=2"),
            (y, v) -> y.append(v), bad);
        Due.sentence("append: IllegalArgumentException is listed first");
        Due.refusedWith("append(v) to 100 bytes", Due.ARGUMENT, full, (y, v) -> y.append(v), bad);
        Due.refusedWith("append(v) to 100 bytes, when busy", Due.ARGUMENT, BoundariesOfText::busyAndFull,
            (y, v) -> y.append(v), bad);
    }

    private static HalfTables busyAndFull() {
        HalfTables x = Made.busy(6);
        Made.type(x, "a=a*b;".repeat(16) + "c=4;");
        return x;
    }

    /** Goes through all bytes behind a text of whole and begun statements. */
    private static void nextOf(String text, String allowed) {
        for (int value = 0; value <= 127; value++) {
            String longer = text + (char) value;
            boolean stands = allowed.indexOf(value) >= 0;
            if (!stands) {
                errorAt(longer, text.length());
                errorAt(longer + "?", text.length());
                errorAt(longer + ";", text.length());
                errorAt(longer + "1", text.length());
                errorAt(longer + "a=1;", text.length());
            } else if (value != ';') {
                errorAt(longer, longer.length());
            }
        }
    }

    private static void bytesThatCanStand() {
        Due.sentence("the index of the first byte that cannot stand where it stands, or the length of the text");
        String[] whole = {"", "a=1;", "h=000;", "a=g>h;", "a=b*c;d=e#f;g=255;", "b=3;".repeat(21)};
        for (String before : whole) {
            nextOf(before, LETTERS);
            nextOf(before + "a", "=");
            nextOf(before + "h", "=");
            nextOf(before + "a=", LETTERS + DIGITS);
            nextOf(before + "a=0", DIGITS + ";");
            nextOf(before + "a=9", DIGITS + ";");
            nextOf(before + "a=24", DIGITS + ";");
            nextOf(before + "a=99;b=00", DIGITS + ";");
            nextOf(before + "a=255", ";");
            nextOf(before + "a=000", ";");
            nextOf(before + "a=a", SIGNS);
            nextOf(before + "a=h", SIGNS);
            for (char sign : SIGNS.toCharArray()) {
                nextOf(before + "a=b" + sign, LETTERS);
                nextOf(before + "a=b" + sign + "h", ";");
            }
        }
        for (char last : LETTERS.toCharArray()) {
            run("a=" + last + "+a;", 2);
            run("a=a+" + last + ";", 2);
            run(last + "=a+a;", 2);
        }
    }

    private static void numbers() {
        Due.sentence("a number of one to three digits, 0 to 255");
        for (int number = 0; number <= 999; number++) {
            if (number <= 255) {
                run("a=" + number + ";", 0);
                run("a=" + String.format("%03d", number) + ";", 0);
                errorAt("a=" + number, 2 + String.valueOf(number).length());
            } else {
                errorAt("a=" + number + ";", 2);
                errorAt("a=" + number, 2);
                errorAt("b=7;c=" + number + "+b;", 6);
            }
        }
        Due.sentence("Numbers can have zeros in front");
        register(new HalfTables(), "a=007;", 0, 7);
        register(new HalfTables(), "a=00;", 0, 0);
        register(new HalfTables(), "a=07;", 0, 7);
        register(new HalfTables(), "a=0;", 0, 0);
        register(new HalfTables(), "a=070;", 0, 70);
        register(new HalfTables(), "a=255;", 0, 255);
        register(new HalfTables(), "a=10;b=2;", 1, 2);
        Due.sentence("a digit too many, too");
        for (String digits : new String[] {"0000", "0001", "0255", "0256", "1000", "2550", "2555", "2560", "9999"}) {
            errorAt("a=" + digits, 5);
            errorAt("a=" + digits + ";", 5);
            errorAt("a=" + digits + "9;", 5);
            errorAt("a=" + digits + "?", 5);
            errorAt("b=1;a=" + digits + ";", 9);
        }
    }

    private static void numbersOutOfRange() {
        Due.sentence("the index of its first digit, found when a byte that is no digit, whichever it is, or the end");
        for (String before : new String[] {"", "b=255;", "a=b+c;".repeat(15)}) {
            for (String digits : new String[] {"256", "260", "300", "999"}) {
                int first = before.length() + 2;
                errorAt(before + "h=" + digits, first);
                for (int value = 0; value <= 127; value++) {
                    boolean digit = DIGITS.indexOf(value) >= 0;
                    errorAt(before + "h=" + digits + (char) value, digit ? first + 3 : first);
                    errorAt(before + "h=" + digits + (char) value + "=", digit ? first + 3 : first);
                }
            }
        }
        Due.sentence("the first error of several");
        errorAt("a=256;b=257;", 2);
        errorAt("a=255;b=257;c", 8);
        errorAt("?a=256;", 0);
        errorAt("a=1;?=256;", 4);
        errorAt("a=256;?", 2);
        errorAt("a=2x;b=256;", 3);
    }

    private static void endOfText() {
        Due.sentence("or the length of the text if the text ends too early; each terminated by a semicolon");
        String text = "a=12;b=a*h;c=255;h=g>f;";
        for (int length = 0; length <= text.length(); length++) {
            boolean ends = length == 0 || text.charAt(length - 1) == ';';
            String begun = text.substring(0, length);
            HalfTables x = Made.ofText(begun);
            int got = x.run();
            Due.answer("error of " + begun, ends ? Math.min(got, 0) : got, ends ? 0 : -10 - length);
        }
        errorAt(";", 0);
        errorAt("a=1;;", 4);
        Due.sentence("-10 minus the syntax error position: of a full text");
        errorAt("a=1;".repeat(24) + "a=1", 99);
        errorAt("a=1;".repeat(24) + "a=12", 100);
        errorAt("a=1;".repeat(24) + "a=1 ", 99);
        errorAt("a=b+c;".repeat(16) + "a=b+", 100);
        errorAt("a=b+c;".repeat(16) + "a=b;", 99);
        errorAt("a=b+c;".repeat(15) + "a=1;b=2;c=", 100);
        errorAt("a=b+c;".repeat(15) + "a=1;b=2;;;", 98);
        errorAt("a=1;b=".repeat(16) + "a=1;", 7);
        errorAt("a=b+c;".repeat(16) + "=1;a", 96);
        errorAt("a=1;".repeat(23) + "a=1;" + "b=", 98);
        errorAt("a=b+c;".repeat(15) + "abcdefghij", 91);
        errorAt("a=b+c;".repeat(15) + "a=1;h=2561", 99);
        errorAt("a=b+c;".repeat(15) + "a=10;h=256", 97);
        errorAt("a".repeat(100), 1);
        errorAt("\0".repeat(100), 0);
    }

    private static void errorsChangeNothing() {
        Due.sentence("-10 minus the syntax error position if there is a syntax error (then nothing changes)");
        String[] texts = {"?", "a=7;b=a+a;a=256;", "a=7;b=a*a;h=1", "a=1;".repeat(24) + "a=12", "b=", "h=3;;"};
        for (String text : texts) {
            Due.Maker[] makers = {
                () -> Made.ofText(text), () -> withText(Made.busy(8), text),
                () -> withText(Made.busyWithoutSaved(), text), () -> withText(Made.saved(3), text),
            };
            for (Due.Maker maker : makers) {
                Due.changesNothing("run() of " + text, maker, x -> x.run());
            }
        }
        HalfTables x = Made.ofText("a=7;b");
        Due.answer("run() of a=7;b", x.run(), -15);
        Due.answer("run() of a=7;b again", x.run(), -15);
        x.append('=');
        x.append('9');
        x.append(';');
        Due.answer("run() of a=7;b=9;", x.run(), 0);
        Due.answer("register(1)", x.register(1), 9);
        Due.answer("undo(), of the one run", x.undo(), 0);
        HalfTables y = Made.ofText("a=b+c;a=b*c;");
        Due.answer("run()", y.run(), 16);
        Made.type(y, "a=b+c;d");
        Due.answer("run() of a shorter text with an error", y.run(), -17);
        Made.type(y, "a=b+c;");
        Due.answer("run() of a shorter text", y.run(), 2);
        Due.answer("account()", y.account(), 18);
    }

    private static HalfTables withText(HalfTables x, String text) {
        Made.type(x, text);
        return x;
    }

    private static void noStatements() {
        Due.sentence("one saved state, also if there are no statements");
        HalfTables x = new HalfTables();
        Due.answer("run() of no statements", x.run(), 0);
        Due.answer("undo()", x.undo(), 0);
        Due.refused("undo() again", Due.STATE, BoundariesOfText::afterRunAndUndo, y -> y.undo());
        for (int states = 0; states <= 4; states++) {
            int s = states;
            Due.savesOneState("run() of no statements", () -> withText(Made.saved(s), ""), y -> y.run());
            Due.savesOneState("run() of one", () -> withText(Made.saved(s), "h=1;"), y -> y.run());
            Due.savesOneState("run() of 25", () -> withText(Made.saved(s), "h=1;".repeat(25)), y -> y.run());
        }
        Due.sentence("It is a sequence of statements: of none, one, 24, 25");
        for (int statements : new int[] {0, 1, 2, 24, 25}) {
            StringBuilder text = new StringBuilder();
            for (int i = 0; i < statements; i++) {
                text.append("abcdefgh".charAt(i % 8)).append('=').append(i % 9 + 1).append(';');
            }
            HalfTables y = Made.ofText(text.toString());
            Due.answer("run() of " + text, y.run(), 0);
            for (int register = 0; register <= 7; register++) {
                int last = -1;
                for (int i = register; i < statements; i += 8) {
                    last = i;
                }
                int due = last < 0 ? 0 : last % 9 + 1;
                Due.answer("register(" + register + ") after " + text, y.register(register), due);
            }
        }
        HalfTables y = Made.ofText("a=1;" + "a=a+a;".repeat(16));
        Due.answer("run() of 17 statements of 100 bytes", y.run(), 32);
        Due.answer("register(0), 65536 modulo 256", y.register(0), 0);
        Due.sentence("The text stays as it is");
        Due.answer("clearText()", y.clearText(), 100);
    }

    private static HalfTables afterRunAndUndo() {
        HalfTables x = new HalfTables();
        x.run();
        x.undo();
        return x;
    }

    private static void registersOfText() {
        Due.sentence("registers, numbered from 0, also called a to h in texts");
        for (int target = 0; target <= 7; target++) {
            for (int first = 0; first <= 7; first++) {
                for (int second = 0; second <= 7; second++) {
                    HalfTables x = new HalfTables();
                    for (int register = 0; register <= 7; register++) {
                        x.setRegister(register, 1 << register);
                    }
                    String text = "" + LETTERS.charAt(target) + "=" + LETTERS.charAt(first) + "-"
                        + LETTERS.charAt(second) + ";";
                    Made.type(x, text);
                    x.run();
                    for (int register = 0; register <= 7; register++) {
                        int due = register == target ? (1 << first) - (1 << second) & 255 : 1 << register;
                        Due.answer("register(" + register + ") after " + text, x.register(register), due);
                    }
                }
            }
        }
        Due.sentence("a sequence: each statement sees what those before it have set");
        HalfTables x = new HalfTables();
        register(x, "a=3;b=a+a;a=b+a;b=a-b;a=a*b;", 0, 27);
        Due.answer("register(1)", x.register(1), 3);
    }

    private static void shifts() {
        Due.sentence("as many bits as the second one tells (31 if it tells more than 31)");
        // The bits, what is left of 255, and how many shifts are paid.
        int[][] rows = {
            {0, 255, 0}, {1, 127, 1}, {2, 63, 2}, {7, 1, 7}, {8, 0, 8}, {9, 0, 9}, {16, 0, 16}, {30, 0, 30},
            {31, 0, 31}, {32, 0, 31}, {33, 0, 31}, {63, 0, 31}, {64, 0, 31}, {65, 0, 31}, {128, 0, 31}, {255, 0, 31},
        };
        for (int[] row : rows) {
            HalfTables x = Made.withCosts(50, 49, 3);
            Made.type(x, "a=255;b=" + row[0] + ";c=a>b;");
            Due.answer("run() of a shift by " + row[0], x.run(), 3 * row[2]);
            Due.answer("255 shifted by " + row[0], x.register(2), row[1]);
            Due.answer("account()", x.account(), 3 * row[2]);
        }
        register(new HalfTables(), "a=254;b=1;c=a>b;", 2, 127);
        register(new HalfTables(), "a=1;b=1;c=a>b;", 2, 0);
        register(new HalfTables(), "a=0;b=255;c=a>b;", 2, 0);
        register(new HalfTables(), "a=128;b=7;a=a>b;", 0, 1);
        register(Made.ofWidth(3), "a=7;b=3;c=a>b;", 2, 0);
        register(Made.ofWidth(3), "a=7;b=2;c=a>b;", 2, 1);
        HalfTables x = Made.ofWidth(3);
        Made.type(x, "a=7;a=a>a;");
        Due.answer("run() of a shift by 7 in the width 3", x.run(), 7);
    }

    private static void wraps() {
        Due.sentence("the result modulo 2 to the power of the width, from 0 on");
        for (int width = 3; width <= 8; width++) {
            int g = Made.greatest(width);
            register(Made.ofWidth(width), "a=" + g + ";b=0;c=a+b;", 2, g);
            register(Made.ofWidth(width), "a=" + g + ";b=1;c=a+b;", 2, 0);
            register(Made.ofWidth(width), "a=" + g + ";c=a+a;", 2, g - 1);
            register(Made.ofWidth(width), "a=1;c=a-a;", 2, 0);
            register(Made.ofWidth(width), "a=1;c=b-a;", 2, g);
            register(Made.ofWidth(width), "a=" + g + ";c=b-a;", 2, 1);
            for (char sign : "*x#".toCharArray()) {
                register(Made.ofWidth(width), "a=" + g + ";c=a" + sign + "a;", 2, 1);
                register(Made.ofWidth(width), "a=" + (g / 2 + 1) + ";b=2;c=a" + sign + "b;", 2, 0);
                register(Made.ofWidth(width), "a=" + g / 2 + ";b=2;c=a" + sign + "b;", 2, g - 1);
                register(Made.ofWidth(width), "a=" + g + ";b=1;c=a" + sign + "b;", 2, g);
                register(Made.ofWidth(width), "a=" + g + ";c=a" + sign + "b;", 2, 0);
            }
        }
        Due.sentence("the result modulo 2 to the power of the width: a negative product of a wrong table");
        int[][] rows = {
            {-1, 255}, {-2, 254}, {-255, 1}, {-256, 0}, {-257, 255}, {-131071, 1}, {-65536, 0}, {131071, 255},
            {65536, 0}, {65537, 1}, {255, 255}, {256, 0}, {0, 0},
        };
        for (int[] row : rows) {
            HalfTables x = Made.withProduct(row[0]);
            register(x, "a=1;b=a*a;c=axa;d=a#a;", 1, row[1]);
            Due.answer("register(2), by shifts", x.register(2), 1);
            Due.answer("register(3), recoded", x.register(3), 1);
        }
        Due.sentence("A number that is no operand of the present width is no syntax error; its lowest bits are taken");
        for (int width = 3; width <= 8; width++) {
            int g = Made.greatest(width);
            for (int number : new int[] {0, 1, g - 1, g, g + 1, g + 2, 2 * g, 128, 200, 254, 255}) {
                if (number <= 255) {
                    HalfTables x = Made.ofWidth(width);
                    Made.type(x, "a=" + number + ";");
                    Due.answer("run() of a=" + number + " in width " + width, x.run(), 0);
                    Due.answer("register(0) after a=" + number, x.register(0), number % (g + 1));
                }
            }
            errorAt("a=256;", 2);
        }
    }

    private static void prices() {
        Due.sentence("An addition and a subtraction cost an addition .. Setting a number costs nothing");
        int[][] costs = {{4, 2, 1}, {50, 50, 50}, {1, 1, 1}, {50, 1, 7}, {1, 50, 3}, {3, 7, 50}};
        for (int[] cost : costs) {
            price(cost, "a=0;b=255;", 0);
            price(cost, "a=b+c;", cost[1]);
            price(cost, "a=255;b=a+a;", cost[1]);
            price(cost, "a=b-c;", cost[1]);
            price(cost, "a=255;b=c-a;", cost[1]);
            price(cost, "a=1;b=a>a;", cost[2]);
            price(cost, "a=255;b=a>c;", 0);
            price(cost, "a=b*c;", 2 * cost[0] + 3 * cost[1]);
            price(cost, "a=255;b=a*a;", 2 * cost[0] + 3 * cost[1]);
            price(cost, "a=255;b=axc;", 0);
            price(cost, "a=255;b=cxa;", 8 * cost[1] + 7 * cost[2]);
            price(cost, "a=1;b=axa;", cost[1]);
            price(cost, "a=128;b=axa;", cost[1] + 7 * cost[2]);
            price(cost, "a=255;b=a#c;", 0);
            price(cost, "a=255;b=c#a;", 2 * cost[1] + 8 * cost[2]);
            price(cost, "a=1;b=a#a;", 2 * cost[1] + cost[2]);
            price(cost, "a=170;b=a#a;", 8 * cost[1] + 8 * cost[2]);
            Due.sentence("Returns the cost of all statements");
            price(cost, "a=170;b=a#a;b=c+a;b=a>c;b=c-a;b=a*a;", 2 * cost[0] + 13 * cost[1] + 8 * cost[2]);
        }
        Due.sentence("The result goes into the register: the cost is that of the registers before");
        price(new int[] {4, 2, 1}, "a=3;a=axa;", 5);
        price(new int[] {4, 2, 1}, "a=3;a=axa;a=axa;", 5 + 7);
        price(new int[] {4, 2, 1}, "a=3;b=255;b=b>a;", 3);
    }

    private static void price(int[] cost, String text, int want) {
        HalfTables x = Made.withCosts(cost[0], cost[1], cost[2]);
        Made.type(x, text);
        Due.answer("run() of " + text + " with costs " + cost[0] + ", " + cost[1] + ", " + cost[2], x.run(), want);
        Due.answer("account()", x.account(), want);
        Due.answer("account() after a second run", x.run() + want, x.account());
    }

    public static void main(String[] args) {
        lengths();
        bytesThatCanStand();
        numbers();
        numbersOutOfRange();
        endOfText();
        errorsChangeNothing();
        noStatements();
        registersOfText();
        shifts();
        wraps();
        prices();
        Due.end();
    }
}
