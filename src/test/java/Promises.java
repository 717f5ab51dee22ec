import java.util.Arrays;

/** The promises 1 to 27 one by one: ordinary inputs, the edges, and wrong inputs. */
public final class Promises {
    private interface Call {
        void make();
    }

    private static final Class<IllegalArgumentException> ARGUMENT = IllegalArgumentException.class;
    private static final Class<IndexOutOfBoundsException> INDEX = IndexOutOfBoundsException.class;
    private static final Class<IllegalStateException> STATE = IllegalStateException.class;

    private static int wrong = 0;
    private static int promise = 0;

    private static void due(String what, long got, long want) {
        if (got != want) {
            wrong++;
            System.out.println("promise " + promise + ": " + what + " answered " + got + ", due is " + want);
        }
    }

    private static void dueDouble(String what, double got, double want) {
        if (got != want) {
            wrong++;
            System.out.println("promise " + promise + ": " + what + " answered " + got + ", due is " + want);
        }
    }

    /** The call has to throw just this exception, and to change nothing that the digest tells. */
    private static void dueThrow(String what, HalfTables x, Class<?> due, Call call) {
        long before = x.digest();
        Class<?> thrown = null;
        try {
            call.make();
        } catch (RuntimeException e) {
            thrown = e.getClass();
        }
        if (thrown != due) {
            wrong++;
            System.out.println("promise " + promise + ": " + what + " threw " + thrown + ", due is " + due);
        }
        due(what + " changed the digest from", before, x.digest());
    }

    /** The call before has to have saved one state, which tells the digest from before. */
    private static void dueUndoable(HalfTables x, long digestBefore, int savedBefore) {
        int savedAfter = Math.min(savedBefore, 3);
        due("undo() after it", x.undo(), savedAfter);
        // The number of saved states comes last in the digest.
        due("digest() after undo()", x.digest(), digestBefore - savedBefore + savedAfter);
    }

    private static void type(HalfTables x, String text) {
        x.clearText();
        for (int i = 0; i < text.length(); i++) {
            due("append of byte " + i + " of " + text, x.append(text.charAt(i)), i + 1);
        }
    }

    private static void dueRun(HalfTables x, String text, int want) {
        type(x, text);
        due("run() of " + text, x.run(), want);
    }

    private static void dueRegisters(HalfTables x, int... want) {
        int[] got = new int[8];
        for (int i = 0; i < 8; i++) {
            got[i] = x.register(i);
        }
        if (!Arrays.equals(got, want)) {
            wrong++;
            System.out.println("promise " + promise + ": registers " + Arrays.toString(got)
                + ", due are " + Arrays.toString(want));
        }
    }

    private static void dueValues(HalfTables x, int... want) {
        for (int what = 0; what < want.length; what++) {
            due("value(" + what + ")", x.value(what), want[what]);
        }
    }

    /** The hash as the document tells it, for a text of this length and so many saved states. */
    private static long hash(HalfTables x, int textLength, int saved) {
        long h = 3833;
        h = 31 * h + textLength;
        for (int what = 0; what <= 7; what++) {
            h = 31 * h + x.value(what);
        }
        h = 31 * h + x.account();
        for (int register = 0; register < 8; register++) {
            h = 31 * h + x.register(register);
        }
        int entries = x.value(1);
        for (int n = 0; n < entries; n++) {
            h = 31 * h + x.entry(n, 0);
        }
        h = 31 * h + x.firstWrong();
        return 31 * h + saved;
    }

    private static void newObject() {
        HalfTables x = new HalfTables();
        dueValues(x, 8, 511, 4, 2, 1, 0, 0, 0);
        dueRegisters(x, 0, 0, 0, 0, 0, 0, 0, 0);
        due("account()", x.account(), 0);
        due("clearText()", x.clearText(), 0);
        dueThrow("undo()", x, STATE, () -> x.undo());
        // An object answers 512 calls, so the entries are asked of another one.
        HalfTables y = new HalfTables();
        for (int n = 0; n <= 510; n++) {
            due("entry(" + n + ", 0)", y.entry(n, 0), n * n / 4);
        }
        due("NONE", HalfTables.NONE, -1);
    }

    private static void setWidth() {
        HalfTables x = new HalfTables();
        x.setCost(0, 9);
        x.flip(7, 3);
        x.flip(7, 4);
        x.flip(510, 0);
        x.setRegister(7, 200);
        dueRun(x, "a=b+c;", 2);
        long before = x.digest();
        due("setWidth(3)", x.setWidth(3), 2);
        dueValues(x, 3, 15, 9, 2, 1, 0, 0, 0);
        dueRegisters(x, 0, 0, 0, 0, 0, 0, 0, 0);
        due("account()", x.account(), 0);
        due("entry(7, 0)", x.entry(7, 0), 12);
        due("undo()", x.undo(), 3);
        due("undo()", x.undo(), 2);
        x.run();
        // Of four saved states two were taken back, and the run saved one.
        due("digest() after the same run", x.digest(), before - 1);

        HalfTables y = new HalfTables();
        y.setRegister(3, 77);
        y.flip(510, 2);
        y.flip(40, 2);
        before = y.digest();
        due("setWidth(5)", y.setWidth(5), 2);
        dueUndoable(y, before, 3);
        due("setWidth(8)", y.setWidth(8), 2);
        due("setWidth(8)", y.setWidth(8), 0);
        due("value(0)", y.value(0), 8);
        for (int width : new int[] {2, 9, -1, Integer.MIN_VALUE, Integer.MAX_VALUE}) {
            dueThrow("setWidth(" + width + ")", y, ARGUMENT, () -> y.setWidth(width));
        }
        for (int width = 3; width <= 8; width++) {
            y.setWidth(width);
            due("value(0)", y.value(0), width);
            due("value(1)", y.value(1), 2 * (1 << width) - 1);
        }
    }

    private static void setCost() {
        HalfTables x = new HalfTables();
        long before = x.digest();
        due("setCost(0, 50)", x.setCost(0, 50), 4);
        dueUndoable(x, before, 0);
        due("setCost(0, 50)", x.setCost(0, 50), 4);
        due("setCost(0, 1)", x.setCost(0, 1), 50);
        due("setCost(1, 7)", x.setCost(1, 7), 2);
        due("setCost(2, 8)", x.setCost(2, 8), 1);
        dueValues(x, 8, 511, 1, 7, 8);
        due("undo() of a call that changes nothing", x.setCost(2, 8) + x.undo(), 8 + 3);
        dueThrow("setCost(-1, 1)", x, ARGUMENT, () -> x.setCost(-1, 1));
        dueThrow("setCost(3, 1)", x, ARGUMENT, () -> x.setCost(3, 1));
        dueThrow("setCost(0, 0)", x, ARGUMENT, () -> x.setCost(0, 0));
        dueThrow("setCost(2, 51)", x, ARGUMENT, () -> x.setCost(2, 51));
    }

    private static void flip() {
        HalfTables x = new HalfTables();
        long before = x.digest();
        due("flip(510, 16)", x.flip(510, 16), 65025 + 65536);
        dueUndoable(x, before, 0);
        due("flip(10, 0)", x.flip(10, 0), 24);
        due("flip(10, 1)", x.flip(10, 1), 26);
        due("flip(10, 0)", x.flip(10, 0), 27);
        due("entry(10, 0)", x.entry(10, 0), 27);
        due("flip(0, 0)", x.flip(0, 0), 1);
        dueThrow("flip(-1, 0)", x, INDEX, () -> x.flip(-1, 0));
        dueThrow("flip(511, 0)", x, INDEX, () -> x.flip(511, 0));
        dueThrow("flip(511, 17)", x, INDEX, () -> x.flip(511, 17));
        dueThrow("flip(0, -1)", x, ARGUMENT, () -> x.flip(0, -1));
        dueThrow("flip(0, 17)", x, ARGUMENT, () -> x.flip(0, 17));
        x.setWidth(3);
        due("flip(14, 0)", x.flip(14, 0), 48);
        dueThrow("flip(15, 0)", x, INDEX, () -> x.flip(15, 0));
    }

    private static void repair() {
        HalfTables x = new HalfTables();
        x.flip(20, 0);
        x.flip(20, 9);
        x.flip(21, 9);
        long before = x.digest();
        due("repair(20)", x.repair(20), 2);
        due("entry(20, 0)", x.entry(20, 0), 100);
        due("value(5)", x.value(5), 1);
        dueUndoable(x, before, 3);
        due("repair(510)", x.repair(510), 0);
        dueUndoable(x, before, 3);
        dueThrow("repair(-1)", x, INDEX, () -> x.repair(-1));
        dueThrow("repair(511)", x, INDEX, () -> x.repair(511));
    }

    private static void repairByParity() {
        HalfTables x = new HalfTables();
        due("repairByParity()", x.repairByParity(), 0);
        x.flip(0, 3);
        x.flip(510, 16);
        x.flip(9, 0);
        x.flip(9, 1);
        x.flip(8, 0);
        x.flip(8, 1);
        x.flip(8, 2);
        long before = x.digest();
        due("repairByParity()", x.repairByParity(), 3);
        due("entry(0, 0)", x.entry(0, 0), 0);
        due("entry(510, 0)", x.entry(510, 0), 65025);
        due("entry(8, 0)", x.entry(8, 0), 16);
        due("entry(9, 0)", x.entry(9, 0), 20 ^ 3);
        dueUndoable(x, before, 4);
    }

    private static void setRegister() {
        HalfTables x = new HalfTables();
        long before = x.digest();
        due("setRegister(0, 255)", x.setRegister(0, 255), 0);
        dueUndoable(x, before, 0);
        due("setRegister(7, 1)", x.setRegister(7, 1), 0);
        due("setRegister(7, 0)", x.setRegister(7, 0), 1);
        dueThrow("setRegister(-1, 0)", x, INDEX, () -> x.setRegister(-1, 0));
        dueThrow("setRegister(8, 0)", x, INDEX, () -> x.setRegister(8, 0));
        dueThrow("setRegister(8, -1)", x, INDEX, () -> x.setRegister(8, -1));
        dueThrow("setRegister(0, -1)", x, ARGUMENT, () -> x.setRegister(0, -1));
        dueThrow("setRegister(0, 256)", x, ARGUMENT, () -> x.setRegister(0, 256));
        x.setWidth(3);
        due("setRegister(4, 7)", x.setRegister(4, 7), 0);
        dueThrow("setRegister(4, 8)", x, ARGUMENT, () -> x.setRegister(4, 8));
    }

    private static void clearAccount() {
        HalfTables x = new HalfTables();
        due("clearAccount()", x.clearAccount(), 0);
        dueRun(x, "a=b*c;", 14);
        x.run();
        long before = x.digest();
        due("clearAccount()", x.clearAccount(), 28);
        due("account()", x.account(), 0);
        dueUndoable(x, before, 3);
        due("account()", x.account(), 28);
    }

    private static void multiply() {
        for (int a = 0; a <= 255; a += 5) {
            HalfTables y = new HalfTables();
            for (int b = 0; b <= 255; b += 3) {
                for (int method = 0; method <= 2; method++) {
                    due("multiply(" + a + ", " + b + ", " + method + ")", y.multiply(a, b, method), a * b);
                }
            }
        }
        HalfTables x = new HalfTables();
        x.flip(10, 0);
        x.flip(4, 16);
        due("multiply(3, 7, 0)", x.multiply(3, 7, 0), 24 - (4 + 65536));
        due("multiply(7, 3, 0)", x.multiply(7, 3, 0), 24 - (4 + 65536));
        due("multiply(7, 3, 1)", x.multiply(7, 3, 1), 21);
        due("multiply(7, 3, 2)", x.multiply(7, 3, 2), 21);
        due("multiply(10, 0, 0)", x.multiply(10, 0, 0), 0);
        dueThrow("multiply(-1, 0, 0)", x, ARGUMENT, () -> x.multiply(-1, 0, 0));
        dueThrow("multiply(256, 0, 1)", x, ARGUMENT, () -> x.multiply(256, 0, 1));
        dueThrow("multiply(0, -1, 2)", x, ARGUMENT, () -> x.multiply(0, -1, 2));
        dueThrow("multiply(0, 256, 0)", x, ARGUMENT, () -> x.multiply(0, 256, 0));
        dueThrow("multiply(0, 0, -1)", x, ARGUMENT, () -> x.multiply(0, 0, -1));
        dueThrow("multiply(0, 0, 3)", x, ARGUMENT, () -> x.multiply(0, 0, 3));
    }

    private static void cost() {
        HalfTables x = new HalfTables();
        x.setCost(0, 50);
        x.setCost(1, 10);
        x.setCost(2, 3);
        due("cost(0, 0, 0)", x.cost(0, 0, 0), 130);
        due("cost(255, 255, 0)", x.cost(255, 255, 0), 130);
        due("cost(255, 0, 1)", x.cost(255, 0, 1), 0);
        due("cost(0, 1, 1)", x.cost(0, 1, 1), 10);
        due("cost(0, 6, 1)", x.cost(0, 6, 1), 26);
        due("cost(0, 255, 1)", x.cost(0, 255, 1), 101);
        due("cost(255, 0, 2)", x.cost(255, 0, 2), 0);
        due("cost(0, 1, 2)", x.cost(0, 1, 2), 23);
        due("cost(0, 6, 2)", x.cost(0, 6, 2), 29);
        due("cost(0, 5, 2)", x.cost(0, 5, 2), 49);
        due("cost(0, 128, 2)", x.cost(0, 128, 2), 44);
        due("cost(0, 255, 2)", x.cost(0, 255, 2), 44);
        dueThrow("cost(-1, 0, 0)", x, ARGUMENT, () -> x.cost(-1, 0, 0));
        dueThrow("cost(256, 0, 0)", x, ARGUMENT, () -> x.cost(256, 0, 0));
        dueThrow("cost(0, -1, 0)", x, ARGUMENT, () -> x.cost(0, -1, 0));
        dueThrow("cost(0, 256, 0)", x, ARGUMENT, () -> x.cost(0, 256, 0));
        dueThrow("cost(0, 0, -1)", x, ARGUMENT, () -> x.cost(0, 0, -1));
        dueThrow("cost(0, 0, 3)", x, ARGUMENT, () -> x.cost(0, 0, 3));
    }

    private static void cheapest() {
        HalfTables x = new HalfTables();
        due("cheapest(9, 0)", x.cheapest(9, 0), 1);
        due("cheapest(9, 7)", x.cheapest(9, 7), 2);
        due("cheapest(9, 254)", x.cheapest(9, 254), 2);
        due("cheapest(9, 171)", x.cheapest(9, 171), 0);
        due("cheapest(9, 85), both cost 14", x.cheapest(9, 85), 0);
        x.flip(94, 0);
        due("cheapest(9, 85) with a wrong table", x.cheapest(9, 85), 1);
        x.flip(76, 0);
        due("cheapest(9, 85) with two flips that cancel out", x.cheapest(9, 85), 1);
        x.repair(76);
        x.repair(94);
        x.setCost(0, 1);
        x.setCost(1, 1);
        due("cheapest(9, 31), 5, 9 and 7", x.cheapest(9, 31), 0);
        x.flip(40, 2);
        due("cheapest(9, 31) with a wrong table", x.cheapest(9, 31), 2);
        x.setCost(2, 2);
        due("cheapest(9, 3), 5, 4 and 6", x.cheapest(9, 3), 1);
        dueThrow("cheapest(-1, 0)", x, ARGUMENT, () -> x.cheapest(-1, 0));
        dueThrow("cheapest(256, 0)", x, ARGUMENT, () -> x.cheapest(256, 0));
        dueThrow("cheapest(0, -1)", x, ARGUMENT, () -> x.cheapest(0, -1));
        dueThrow("cheapest(0, 256)", x, ARGUMENT, () -> x.cheapest(0, 256));
    }

    private static void cheapestOfErrorsThatCancelOut() {
        HalfTables x = new HalfTables();
        x.setCost(0, 1);
        x.setCost(1, 1);
        x.setCost(2, 50);
        x.flip(8, 2);
        due("cheapest(5, 3) with a wrong sum", x.cheapest(5, 3), 1);
        // The entry 8 tells 20 for 16, the entry 2 tells 5 for 1.
        x.flip(2, 2);
        due("multiply(5, 3, 0), 20 - 5", x.multiply(5, 3, 0), 15);
        due("cheapest(5, 3) with errors that cancel out", x.cheapest(5, 3), 0);
    }

    private static void fraction() {
        HalfTables x = new HalfTables();
        int[][] downUpEven = {{5, 2, 3, 2}, {6, 1, 2, 2}, {7, 1, 2, 2}, {14, 3, 4, 4}, {4, 1, 1, 1}, {2, 0, 1, 0}};
        for (int[] row : downUpEven) {
            int places = row[0] == 5 ? 1 : 2;
            for (int method = 0; method <= 2; method++) {
                due("fraction(" + row[0] + ", 1, .., 0)", x.fraction(row[0], 1, method, places, 0), row[1]);
                due("fraction(" + row[0] + ", 1, .., 1)", x.fraction(row[0], 1, method, places, 1), row[2]);
                due("fraction(" + row[0] + ", 1, .., 2)", x.fraction(row[0], 1, method, places, 2), row[3]);
            }
        }
        for (int way = 0; way <= 2; way++) {
            due("fraction(255, 255, 1, 0, way)", x.fraction(255, 255, 1, 0, way), 65025);
            due("fraction(255, 255, 1, 16, way)", x.fraction(255, 255, 1, 16, way), way == 0 ? 0 : 1);
            due("fraction(128, 255, 1, 16, way)", x.fraction(128, 255, 1, 16, way), 0);
        }
        // The entry 1 tells 6 for 0, and 1 * 2 is then 2 - 6.
        x.flip(1, 1);
        x.flip(1, 2);
        due("multiply(1, 2, 0)", x.multiply(1, 2, 0), -4);
        due("fraction(1, 2, 0, 3, 0), of -0.5", x.fraction(1, 2, 0, 3, 0), -1);
        due("fraction(1, 2, 0, 3, 1), of -0.5", x.fraction(1, 2, 0, 3, 1), 0);
        due("fraction(1, 2, 0, 3, 2), of -0.5", x.fraction(1, 2, 0, 3, 2), 0);
        x.flip(1, 3);
        due("multiply(1, 2, 0)", x.multiply(1, 2, 0), -12);
        due("fraction(1, 2, 0, 3, 0), of -1.5", x.fraction(1, 2, 0, 3, 0), -2);
        due("fraction(1, 2, 0, 3, 1), of -1.5", x.fraction(1, 2, 0, 3, 1), -1);
        due("fraction(1, 2, 0, 3, 2), of -1.5", x.fraction(1, 2, 0, 3, 2), -2);
        due("fraction(1, 2, 0, 4, 1), of -0.75", x.fraction(1, 2, 0, 4, 1), -1);
        due("fraction(1, 2, 0, 0, 0), of -12", x.fraction(1, 2, 0, 0, 0), -12);
        due("fraction(1, 2, 1, 0, 0)", x.fraction(1, 2, 1, 0, 0), 2);
        dueThrow("fraction(-1, ..)", x, ARGUMENT, () -> x.fraction(-1, 0, 0, 0, 0));
        dueThrow("fraction(256, ..)", x, ARGUMENT, () -> x.fraction(256, 0, 0, 0, 0));
        dueThrow("fraction(0, -1, ..)", x, ARGUMENT, () -> x.fraction(0, -1, 0, 0, 0));
        dueThrow("fraction(0, 256, ..)", x, ARGUMENT, () -> x.fraction(0, 256, 0, 0, 0));
        dueThrow("fraction, method -1", x, ARGUMENT, () -> x.fraction(0, 0, -1, 0, 0));
        dueThrow("fraction, method 3", x, ARGUMENT, () -> x.fraction(0, 0, 3, 0, 0));
        dueThrow("fraction, places -1", x, ARGUMENT, () -> x.fraction(0, 0, 0, -1, 0));
        dueThrow("fraction, places 17", x, ARGUMENT, () -> x.fraction(0, 0, 0, 17, 0));
        dueThrow("fraction, way -1", x, ARGUMENT, () -> x.fraction(0, 0, 0, 0, -1));
        dueThrow("fraction, way 3", x, ARGUMENT, () -> x.fraction(0, 0, 0, 0, 3));
    }

    private static void error() {
        HalfTables x = new HalfTables();
        dueDouble("error(3, 1, 1, 0)", x.error(3, 1, 1, 0), -0.5);
        dueDouble("error(3, 1, 1, 1)", x.error(3, 1, 1, 1), 0.5);
        dueDouble("error(5, 1, 1, 2)", x.error(5, 1, 1, 2), -0.5);
        dueDouble("error(255, 255, 0, 0)", x.error(255, 255, 0, 0), 0.0);
        dueDouble("error(255, 255, 16, 0)", x.error(255, 255, 16, 0), -65025.0 / 65536.0);
        dueDouble("error(255, 255, 16, 2)", x.error(255, 255, 16, 2), 511.0 / 65536.0);
        dueDouble("error(0, 255, 16, 1)", x.error(0, 255, 16, 1), 0.0);
        x.flip(4, 0);
        dueDouble("error(3, 1, 1, 0), not by the table", x.error(3, 1, 1, 0), -0.5);
        dueThrow("error(-1, ..)", x, ARGUMENT, () -> x.error(-1, 0, 0, 0));
        dueThrow("error(256, ..)", x, ARGUMENT, () -> x.error(256, 0, 0, 0));
        dueThrow("error(0, -1, ..)", x, ARGUMENT, () -> x.error(0, -1, 0, 0));
        dueThrow("error(0, 256, ..)", x, ARGUMENT, () -> x.error(0, 256, 0, 0));
        dueThrow("error, places -1", x, ARGUMENT, () -> x.error(0, 0, -1, 0));
        dueThrow("error, places 17", x, ARGUMENT, () -> x.error(0, 0, 17, 0));
        dueThrow("error, way -1", x, ARGUMENT, () -> x.error(0, 0, 0, -1));
        dueThrow("error, way 3", x, ARGUMENT, () -> x.error(0, 0, 0, 3));
    }

    private static void dueEntry(HalfTables x, int n, int... want) {
        for (int what = 0; what < want.length; what++) {
            due("entry(" + n + ", " + what + ")", x.entry(n, what), want[what]);
        }
    }

    private static void entry() {
        HalfTables x = new HalfTables();
        dueEntry(x, 0, 0, 0, 0, 1, 0);
        dueEntry(x, 3, 2, 2, 1, 1, 0);
        dueEntry(x, 510, 65025, 65025, parityOf(65025), 1, 0);
        x.flip(3, 16);
        dueEntry(x, 3, 65538, 2, 1, 0, 1);
        x.flip(3, 1);
        dueEntry(x, 3, 65536, 2, 1, 1, 2);
        dueThrow("entry(-1, 0)", x, INDEX, () -> x.entry(-1, 0));
        dueThrow("entry(511, 0)", x, INDEX, () -> x.entry(511, 0));
        dueThrow("entry(511, 5)", x, INDEX, () -> x.entry(511, 5));
        dueThrow("entry(0, -1)", x, ARGUMENT, () -> x.entry(0, -1));
        dueThrow("entry(0, 5)", x, ARGUMENT, () -> x.entry(0, 5));
        x.setWidth(4);
        dueEntry(x, 30, 225, 225, 0, 1, 0);
        dueThrow("entry(31, 0)", x, INDEX, () -> x.entry(31, 0));
    }

    private static int parityOf(int number) {
        int parity = 0;
        for (int rest = number; rest > 0; rest /= 2) {
            parity ^= rest % 2;
        }
        return parity;
    }

    private static void register() {
        HalfTables x = new HalfTables();
        for (int i = 0; i < 8; i++) {
            x.setRegister(i, 10 * i + 1);
        }
        dueRegisters(x, 1, 11, 21, 31, 41, 51, 61, 71);
        dueThrow("register(-1)", x, INDEX, () -> x.register(-1));
        dueThrow("register(8)", x, INDEX, () -> x.register(8));
    }

    private static void value() {
        HalfTables x = new HalfTables();
        x.setCost(0, 11);
        x.setCost(1, 12);
        x.setCost(2, 13);
        x.flip(1, 0);
        x.flip(2, 0);
        x.flip(2, 1);
        x.flip(510, 4);
        x.flip(510, 5);
        x.flip(510, 6);
        dueValues(x, 8, 511, 11, 12, 13, 3, 2, 6);
        x.setWidth(6);
        dueValues(x, 6, 127, 11, 12, 13, 0, 0, 0);
        x.flip(0, 5);
        dueValues(x, 6, 127, 11, 12, 13, 1, 1, 1);
        x.flip(126, 5);
        dueValues(x, 6, 127, 11, 12, 13, 2, 2, 2);
        dueThrow("value(-1)", x, ARGUMENT, () -> x.value(-1));
        dueThrow("value(8)", x, ARGUMENT, () -> x.value(8));
    }

    private static void account() {
        HalfTables x = new HalfTables();
        dueRun(x, "a=3;b=a#a;c=b+b;", 8);
        due("account()", x.account(), 8);
        x.run();
        due("account()", x.account(), 16);
        x.multiply(3, 3, 0);
        x.cost(3, 3, 0);
        due("account() after multiply and cost", x.account(), 16);
        dueRun(x, "c=b+b;c", -17);
        due("account() after a syntax error", x.account(), 16);
        x.clearAccount();
        due("account()", x.account(), 0);
        x.undo();
        due("account()", x.account(), 16);
    }

    private static void wrongPairs() {
        HalfTables x = new HalfTables();
        due("wrongPairs()", x.wrongPairs(), 0);
        x.flip(510, 0);
        due("wrongPairs() of 255 * 255", x.wrongPairs(), 1);
        x.repair(510);
        x.flip(0, 0);
        due("wrongPairs() of a * a", x.wrongPairs(), 255);
        x.setWidth(3);
        for (int n = 0; n <= 14; n++) {
            x.flip(n, 16);
        }
        // The true values of the width 3 are less than 65536: all errors are alike and cancel out.
        due("wrongPairs() where all errors cancel out", x.wrongPairs(), 0);
        x.repair(14);
        due("wrongPairs()", x.wrongPairs(), 1);
        x.repair(1);
        due("wrongPairs()", x.wrongPairs(), 13);
    }

    private static void wrongPairsWith() {
        HalfTables x = new HalfTables();
        x.setWidth(3);
        due("wrongPairsWith(0)", x.wrongPairsWith(0), 0);
        x.flip(2, 5);
        // 1 * 1 by the sum 2, and a - b = 2 or b - a = 2 but for 2 and 0.
        due("wrongPairsWith(2)", x.wrongPairsWith(2), 11);
        due("wrongPairsWith(0)", x.wrongPairsWith(0), 1);
        due("wrongPairsWith(4), of 1, 3 and 3, 1", x.wrongPairsWith(4), 2);
        due("wrongPairsWith(12), of 7, 5 and 5, 7", x.wrongPairsWith(12), 2);
        due("wrongPairsWith(3)", x.wrongPairsWith(3), 0);
        due("wrongPairsWith(14)", x.wrongPairsWith(14), 0);
        due("wrongPairs()", x.wrongPairs(), 11);
        dueThrow("wrongPairsWith(-1)", x, INDEX, () -> x.wrongPairsWith(-1));
        dueThrow("wrongPairsWith(15)", x, INDEX, () -> x.wrongPairsWith(15));
        x.repair(2);
        due("wrongPairsWith(2) after repair", x.wrongPairsWith(2), 0);
    }

    private static void firstWrong() {
        HalfTables x = new HalfTables();
        due("firstWrong()", x.firstWrong(), -1);
        x.flip(510, 0);
        due("firstWrong()", x.firstWrong(), 255255);
        x.flip(500, 0);
        due("firstWrong()", x.firstWrong(), 245255);
        x.flip(9, 0);
        due("firstWrong()", x.firstWrong(), 1008);
        x.flip(1, 0);
        due("firstWrong()", x.firstWrong(), 1002);
        x.flip(0, 0);
        due("firstWrong()", x.firstWrong(), 1001);
        x.setWidth(3);
        due("firstWrong() of a true table", x.firstWrong(), -1);
        x.flip(14, 0);
        due("firstWrong()", x.firstWrong(), 7007);
    }

    private static void suspect() {
        HalfTables x = new HalfTables();
        due("suspect()", x.suspect(), -1);
        x.flip(510, 3);
        due("suspect(), 0 and 510 alike", x.suspect(), 0);
        x.flip(508, 3);
        // 508 is read for 254, 254 and for 255, 253 in both orders.
        due("suspect()", x.suspect(), 508);
        x.flip(40, 0);
        due("suspect()", x.suspect(), 40);
        x.setWidth(3);
        for (int n = 0; n <= 14; n++) {
            x.flip(n, 16);
        }
        due("suspect() where all errors cancel out", x.suspect(), -1);
    }

    private static void cheaperPairs() {
        HalfTables x = new HalfTables();
        due("cheaperPairs(0, 1)", x.cheaperPairs(0, 1), 32512);
        due("cheaperPairs(1, 0)", x.cheaperPairs(1, 0), 27648);
        due("cheaperPairs(1, 1)", x.cheaperPairs(1, 1), 0);
        x.flip(100, 0);
        due("cheaperPairs(0, 1) with a wrong table", x.cheaperPairs(0, 1), 32512);
        x.setWidth(3);
        x.setCost(0, 50);
        due("cheaperPairs(0, 1)", x.cheaperPairs(0, 1), 0);
        due("cheaperPairs(1, 0)", x.cheaperPairs(1, 0), 64);
        // 7 = 8 - 1 costs 2 additions and 3 shifts, by shifts 3 and 2: 7 against 8.
        due("cheaperPairs(2, 1)", x.cheaperPairs(2, 1), 8);
        due("cheaperPairs(1, 2), all but 0 and 7", x.cheaperPairs(1, 2), 48);
        dueThrow("cheaperPairs(-1, 0)", x, ARGUMENT, () -> x.cheaperPairs(-1, 0));
        dueThrow("cheaperPairs(3, 0)", x, ARGUMENT, () -> x.cheaperPairs(3, 0));
        dueThrow("cheaperPairs(0, -1)", x, ARGUMENT, () -> x.cheaperPairs(0, -1));
        dueThrow("cheaperPairs(0, 3)", x, ARGUMENT, () -> x.cheaperPairs(0, 3));
    }

    private static void append() {
        HalfTables x = new HalfTables();
        for (int i = 0; i < 100; i++) {
            due("append(" + i + ")", x.append(i), i + 1);
        }
        dueThrow("append(59)", x, STATE, () -> x.append(59));
        dueThrow("append(-1) to a full text", x, ARGUMENT, () -> x.append(-1));
        dueThrow("append(128) to a full text", x, ARGUMENT, () -> x.append(128));
        due("clearText()", x.clearText(), 100);
        due("append(127)", x.append(127), 1);
        dueThrow("append(-1)", x, ARGUMENT, () -> x.append(-1));
        dueThrow("append(128)", x, ARGUMENT, () -> x.append(128));
        dueThrow("undo(), for a text is no state", x, STATE, () -> x.undo());
    }

    private static void clearText() {
        HalfTables x = new HalfTables();
        due("clearText()", x.clearText(), 0);
        type(x, "a=7;");
        due("clearText()", x.clearText(), 4);
        due("run() of no text", x.run(), 0);
        due("register(0)", x.register(0), 0);
        due("undo(), of run() alone", x.undo(), 0);
        type(x, "a=7;");
        x.setCost(0, 1);
        x.undo();
        due("clearText() after undo()", x.clearText(), 4);
    }

    private static void run() {
        HalfTables x = new HalfTables();
        long before = x.digest();
        due("run()", x.run(), 0);
        dueUndoable(x, before, 0);
        dueRun(x, "a=200;b=007;c=a*b;d=axb;e=a#b;f=a-b;g=b-a;h=a>b;", 14 + 8 + 7 + 2 + 2 + 7);
        dueRegisters(x, 200, 7, 120, 120, 120, 193, 63, 1);
        before = x.digest();
        due("run() again", x.run(), 40);
        due("account()", x.account(), 80);
        dueUndoable(x, before, 1);
        due("clearText(): the text stays", x.clearText(), 48);
        dueRun(x, "a=255;b=31;c=a>b;b=32;d=a>b;e=a+a;a=a-e;", 31 + 31 + 2 + 2);
        dueRegisters(x, 1, 32, 0, 0, 254, 193, 63, 1);
        x.flip(9, 16);
        // 4 + 5 reads 20 + 65536 and 0: its lowest bits are those of 20. 12 - 3 = 9: 56 - 65556.
        dueRun(x, "a=4;b=5;c=a*b;a=12;b=3;d=a*b;", 28);
        dueRegisters(x, 12, 3, 20, 36, 254, 193, 63, 1);
        x.flip(9, 7);
        x.run();
        due("register(2) with a flipped bit 7", x.register(2), 148);
        due("register(3) with a flipped bit 7", x.register(3), (56 - 20 - 65536 - 128) & 255);
        x.setWidth(3);
        dueRun(x, "a=255;b=8;c=13;d=a+c;e=b-c;f=axa;", 4 + 8);
        dueRegisters(x, 7, 0, 5, 4, 3, 1, 0, 0);
    }

    private static void runCosts() {
        HalfTables x = new HalfTables();
        x.setCost(0, 50);
        x.setCost(1, 30);
        x.setCost(2, 7);
        dueRun(x, "a=6;b=a*a;", 190);
        dueRun(x, "a=6;b=axa;", 74);
        dueRun(x, "a=6;b=a#a;", 81);
        dueRun(x, "a=6;b=a+a;", 30);
        dueRun(x, "a=6;b=a-a;", 30);
        dueRun(x, "a=6;b=a>a;", 42);
        dueRun(x, "a=0;b=axa;b=a#a;b=a>a;", 0);
        dueRun(x, "a=99;b=a>a;", 217);
        due("account()", x.account(), 190 + 74 + 81 + 30 + 30 + 42 + 217);
    }

    private static void syntaxErrors() {
        String[] texts = {
            "i=1;", "A=1;", "=", " a=1;", ";", "a", "a1;", "a=", "a=;", "a==1;", "a=i+a;", "a=x;", "a=1",
            "a=12", "a=256", "a=256;", "a=256+", "a=256=", "a=255", "a=255+b;", "a=0255;", "a=0000", "a=2560;",
            "a=999", "a=300 ", "a=b", "a=b;", "a=b/c;", "a=bXc;", "a=b+", "a=b+i;", "a=b+1;", "a=b+c", "a=b+c ",
            "a=b+cd", "a=1;;", "a=1;b", "a=1;b=2;c=999;d", "a=999;?", "a=1a;", "a=-1;", "a=1;\0", "a=1;\n", "a=25`",
        };
        int[] positions = {
            0, 0, 0, 0, 0, 1, 1, 2, 2, 2, 2, 2, 3,
            4, 2, 2, 2, 2, 5, 5, 5, 5, 5,
            2, 2, 3, 3, 3, 3, 4, 4, 4, 5, 5,
            5, 4, 5, 10, 2, 3, 2, 4, 4, 4,
        };
        due("rows", texts.length, positions.length);
        for (int i = 0; i < texts.length; i++) {
            HalfTables y = new HalfTables();
            type(y, texts[i]);
            long before = y.digest();
            due("run() of " + texts[i], y.run(), -10 - positions[i]);
            due("digest() after the error in " + texts[i], y.digest(), before);
        }
        HalfTables x = new HalfTables();
        dueRun(x, "a=7;b=a+a;a=256;", -22);
        dueRegisters(x, 0, 0, 0, 0, 0, 0, 0, 0);
        dueThrow("undo(), for nothing was run", x, STATE, () -> x.undo());
        dueRun(x, "a=000;b=255;h=009;", 0);
        dueRegisters(x, 0, 255, 0, 0, 0, 0, 0, 9);
        dueRun(x, "a=1;".repeat(25), 0);
        due("register(0)", x.register(0), 1);
        dueRun(x, "a=a+a;".repeat(16) + "b=1;", 32);
        HalfTables z = new HalfTables();
        dueRun(z, "a=1;".repeat(24) + "a=12", -110);
        dueRun(z, "a=1;".repeat(24) + "a=1a", -109);
    }

    private static void undo() {
        HalfTables x = new HalfTables();
        long[] digests = new long[7];
        for (int i = 0; i < 7; i++) {
            digests[i] = x.digest();
            x.flip(100, i);
        }
        for (int i = 0; i < 4; i++) {
            due("undo()", x.undo(), 3 - i);
            due("entry(100, 4)", x.entry(100, 4), 6 - i);
        }
        due("entry(100, 0)", x.entry(100, 0), 2500 ^ 7);
        dueThrow("undo() of an empty store", x, STATE, () -> x.undo());
        x.setWidth(4);
        x.setRegister(2, 15);
        due("undo()", x.undo(), 1);
        dueRegisters(x, 0, 0, 0, 0, 0, 0, 0, 0);
        due("undo()", x.undo(), 0);
        due("value(0)", x.value(0), 8);
        due("entry(100, 0)", x.entry(100, 0), 2500 ^ 7);

        HalfTables y = new HalfTables();
        y.setCost(1, 9);
        dueRun(y, "a=3;b=a+a;", 9);
        y.setCost(2, 9);
        type(y, "c=1;");
        due("undo()", y.undo(), 2);
        due("undo()", y.undo(), 1);
        dueRegisters(y, 0, 0, 0, 0, 0, 0, 0, 0);
        due("account()", y.account(), 0);
        due("undo()", y.undo(), 0);
        dueValues(y, 8, 511, 4, 2, 1);
        due("clearText(), which no undo changes", y.clearText(), 4);
        y.multiply(1, 1, 1);
        y.wrongPairs();
        y.suspect();
        dueThrow("undo() after calls that are not undoable", y, STATE, () -> y.undo());
    }

    private static void digest() {
        HalfTables x = new HalfTables();
        x.setWidth(4);
        due("digest()", x.digest(), hash(x, 0, 1));
        type(x, "a=77;b=axa;");
        due("digest()", x.digest(), hash(x, 11, 1));
        x.run();
        due("digest()", x.digest(), hash(x, 11, 2));
        x.flip(30, 1);
        x.flip(3, 1);
        x.setCost(1, 3);
        due("digest()", x.digest(), hash(x, 11, 4));
        x.setRegister(7, 15);
        due("digest()", x.digest(), hash(x, 11, 4));
        x.setWidth(3);
        x.undo();
        x.undo();
        due("digest()", x.digest(), hash(x, 11, 2));
        x.setWidth(3);
        x.clearText();
        due("digest()", x.digest(), hash(x, 0, 3));
    }

    public static void main(String[] args) {
        Call[][] promises = {
            {Promises::newObject}, {Promises::setWidth}, {Promises::setCost}, {Promises::flip}, {Promises::repair},
            {Promises::repairByParity}, {Promises::setRegister}, {Promises::clearAccount}, {Promises::multiply},
            {Promises::cost}, {Promises::cheapest, Promises::cheapestOfErrorsThatCancelOut}, {Promises::fraction},
            {Promises::error}, {Promises::entry}, {Promises::register}, {Promises::value}, {Promises::account},
            {Promises::wrongPairs}, {Promises::wrongPairsWith}, {Promises::firstWrong}, {Promises::suspect},
            {Promises::cheaperPairs}, {Promises::append}, {Promises::clearText},
            {Promises::run, Promises::runCosts, Promises::syntaxErrors}, {Promises::undo}, {Promises::digest},
        };
        for (Call[] tests : promises) {
            promise++;
            for (Call test : tests) {
                test.make();
            }
        }
        System.out.println(wrong == 0 ? promise + " promises hold" : wrong + " answers are not as due");
        if (wrong != 0) {
            System.exit(1);
        }
    }
}
