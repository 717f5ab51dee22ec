import java.math.BigDecimal;
import java.math.BigInteger;
import java.math.RoundingMode;

/** The sentences of the document that name a boundary, but for those about the text: see BoundariesOfText. */
public final class Boundaries {
    private static final int LEAST = Integer.MIN_VALUE;
    private static final int MOST = Integer.MAX_VALUE;

    private static void widths() {
        Due.sentence("The width is 3 to 8, initially 8");
        Due.answer("value(0)", new HalfTables().value(0), 8);
        Due.refusedInAll("setWidth(v)", Due.ARGUMENT, (x, v) -> x.setWidth(v), LEAST, -8, -1, 0, 1, 2, 9, 10, 16, MOST);
        for (int width = 3; width <= 8; width++) {
            HalfTables x = new HalfTables();
            Due.answer("setWidth(" + width + ")", x.setWidth(width), 0);
            Due.answer("value(0)", x.value(0), width);
        }
    }

    private static void operands() {
        Due.sentence("an operand is a number from 0 to 2 to the power of the width, minus 1");
        for (int width = 3; width <= 8; width++) {
            int w = width;
            int last = Made.greatest(width);
            operandOf("setRegister(7, v)", w, (x, v) -> x.setRegister(7, v), 0, 0);
            operandOf("multiply(v, 1, 0)", w, (x, v) -> x.multiply(v, 1, 0), 0, last);
            operandOf("multiply(1, v, 0)", w, (x, v) -> x.multiply(1, v, 0), 0, last);
            operandOf("multiply(v, v, 1)", w, (x, v) -> x.multiply(v, v, 1), 0, last * last);
            operandOf("multiply(v, v, 2)", w, (x, v) -> x.multiply(v, v, 2), 0, last * last);
            operandOf("cost(v, 1, 1)", w, (x, v) -> x.cost(v, 1, 1), 2, 2);
            operandOf("cost(1, v, 1)", w, (x, v) -> x.cost(1, v, 1), 0, 2 * w + w - 1);
            operandOf("cheapest(v, 0)", w, (x, v) -> x.cheapest(v, 0), 1, 1);
            operandOf("cheapest(1, v)", w, (x, v) -> x.cheapest(1, v), 1, 2);
            operandOf("fraction(v, 1, 1, 0, 0)", w, (x, v) -> x.fraction(v, 1, 1, 0, 0), 0, last);
            operandOf("fraction(1, v, 0, 0, 0)", w, (x, v) -> x.fraction(1, v, 0, 0, 0), 0, last);
            operandOf("error(v, 1, 0, 0)", w, (x, v) -> (long) x.error(v, 1, 0, 0), 0, 0);
            operandOf("error(1, v, 0, 0)", w, (x, v) -> (long) x.error(1, v, 0, 0), 0, 0);
        }
    }

    private static void operandOf(String what, int width, Due.CallWith call, long atLeast, long atGreatest) {
        String where = " of width " + width;
        Due.answer(what + where + " with v = 0", call.of(Made.ofWidth(width), 0), atLeast);
        Due.answer(what + where + " with the greatest", call.of(Made.ofWidth(width), Made.greatest(width)), atGreatest);
        int tooGreat = Made.greatest(width) + 1;
        Due.refusedWith(what + where, Due.ARGUMENT, () -> Made.busy(width), call,
            LEAST, -1, tooGreat, tooGreat + 1, MOST);
    }

    private static void entries() {
        Due.sentence("The table has the entries 0 to 2 * the greatest operand");
        for (int width = 3; width <= 8; width++) {
            int last = 2 * Made.greatest(width);
            Due.answer("value(1)", Made.ofWidth(width).value(1), last + 1);
            entryOf("flip(v, 0)", width, (x, v) -> x.flip(v, 0), 1, Made.truth(last) ^ 1);
            entryOf("repair(v)", width, (x, v) -> x.repair(v), 0, 0);
            entryOf("entry(v, 0)", width, (x, v) -> x.entry(v, 0), 0, Made.truth(last));
            entryOf("entry(v, 1)", width, (x, v) -> x.entry(v, 1), 0, Made.truth(last));
            entryOf("entry(v, 4)", width, (x, v) -> x.entry(v, 4), 0, 0);
            entryOf("wrongPairsWith(v)", width, (x, v) -> x.wrongPairsWith(v), 0, 0);
        }
        Due.sentence("Returns the entry: of a narrower table that was wider before");
        HalfTables x = new HalfTables();
        x.flip(15, 0);
        x.flip(510, 0);
        x.setWidth(3);
        Due.answer("value(5)", x.value(5), 0);
        Due.answer("wrongPairs()", x.wrongPairs(), 0);
        x.undo();
        Due.answer("value(5) after undo()", x.value(5), 2);
        Due.answer("entry(15, 0) after undo()", x.entry(15, 0), 57);
        Due.answer("entry(510, 0) after undo()", x.entry(510, 0), 65024);
    }

    private static void entryOf(String what, int width, Due.CallWith call, long atFirst, long atLast) {
        String where = " of width " + width;
        int last = 2 * Made.greatest(width);
        Due.answer(what + where + " with v = 0", call.of(Made.ofWidth(width), 0), atFirst);
        Due.answer(what + where + " with v = " + last, call.of(Made.ofWidth(width), last), atLast);
        Due.refusedWith(what + where, Due.INDEX, () -> Made.busy(width), call, LEAST, -1, last + 1, last + 2, MOST);
    }

    private static void trueValues() {
        Due.sentence("The true value of the entry n is n * n / 4");
        for (int width = 3; width <= 8; width++) {
            HalfTables stored = Made.ofWidth(width);
            HalfTables told = Made.ofWidth(width);
            for (int n = 0; n <= 2 * Made.greatest(width); n++) {
                Due.answer("entry(" + n + ", 0)", stored.entry(n, 0), Made.truth(n));
                Due.answer("entry(" + n + ", 1)", told.entry(n, 1), Made.truth(n));
            }
        }
        Due.answer("entry(1, 1), of 1 / 4", new HalfTables().entry(1, 1), 0);
        Due.answer("entry(2, 1)", new HalfTables().entry(2, 1), 1);
        Due.answer("entry(3, 1), of 9 / 4", new HalfTables().entry(3, 1), 2);
        Due.answer("entry(509, 1), of 259081 / 4", new HalfTables().entry(509, 1), 64770);
    }

    private static void bitsOfEntries() {
        Due.sentence("A stored value has 17 bits; bits of it can be flipped");
        for (int n : new int[] {0, 1, 14, 509, 510}) {
            HalfTables x = new HalfTables();
            int due = Made.truth(n);
            for (int bit = 0; bit <= 16; bit++) {
                due = due / (1 << bit) % 2 == 0 ? due + (1 << bit) : due - (1 << bit);
                Due.answer("flip(" + n + ", " + bit + ")", x.flip(n, bit), due);
                Due.answer("entry(" + n + ", 0)", x.entry(n, 0), due);
                Due.answer("entry(" + n + ", 4)", x.entry(n, 4), bit + 1);
                Due.answer("entry(" + n + ", 3)", x.entry(n, 3), bit % 2);
                Due.answer("value(5)", x.value(5), 1);
                Due.answer("value(6)", x.value(6), 1 - bit % 2);
                Due.answer("value(7)", x.value(7), bit + 1);
            }
            Due.answer("entry(" + n + ", 0) with all bits flipped", x.entry(n, 0), 131071 - Made.truth(n));
            Due.answer("repair(" + n + ")", x.repair(n), 17);
            Due.answer("entry(" + n + ", 0)", x.entry(n, 0), Made.truth(n));
            Due.answer("repair(" + n + ") again", x.repair(n), 0);
        }
        Due.sentence("flip, bit: 0 to 16");
        Due.refusedInAll("flip(0, v)", Due.ARGUMENT, (x, v) -> x.flip(0, v), LEAST, -1, 17, 18, 31, 32, MOST);
        Due.sentence("flip: IndexOutOfBoundsException is listed first");
        Due.refusedInAll("flip(v, 17)", Due.INDEX, (x, v) -> x.flip(v, 17), -1, 511, LEAST, MOST);
        Due.refusedInAll("flip(v, -1)", Due.INDEX, (x, v) -> x.flip(v, -1), -1, 511);
    }

    private static void parities() {
        Due.sentence("the parity of the true value, which is 1 if an odd number of its bits are 1, otherwise 0");
        // 0, 0, 1, 2, 4, 6, 9, 12, 16, 20, 25, 30, 36, 42, 49
        int[] due = {0, 0, 1, 1, 1, 0, 0, 0, 1, 0, 1, 0, 0, 1, 1};
        for (int n = 0; n < due.length; n++) {
            HalfTables x = Made.ofWidth(3);
            Due.answer("entry(" + n + ", 2)", x.entry(n, 2), due[n]);
            Due.answer("entry(" + n + ", 3)", x.entry(n, 3), 1);
            x.flip(n, 16);
            Due.sentence("parities are never wrong");
            Due.answer("entry(" + n + ", 2) after a flip", x.entry(n, 2), due[n]);
            Due.answer("entry(" + n + ", 3) after a flip", x.entry(n, 3), 0);
            x.flip(n, 0);
            Due.answer("entry(" + n + ", 2) after two flips", x.entry(n, 2), due[n]);
            Due.answer("entry(" + n + ", 3) after two flips", x.entry(n, 3), 1);
        }
        Due.sentence("Repairs all entries whose stored value has another parity than the table stores for them");
        HalfTables x = Made.ofWidth(3);
        Due.answer("repairByParity() of a true table", x.repairByParity(), 0);
        for (int n = 0; n <= 14; n++) {
            x.flip(n, 5);
        }
        x.flip(0, 6);
        x.flip(14, 6);
        x.flip(7, 0);
        x.flip(7, 1);
        Due.answer("repairByParity() of 13 with odd errors", x.repairByParity(), 13);
        Due.answer("entry(0, 4)", x.entry(0, 4), 2);
        Due.answer("entry(14, 4)", x.entry(14, 4), 2);
        Due.answer("value(7)", x.value(7), 4);
        Due.answer("repairByParity() again", x.repairByParity(), 0);
        x.flip(0, 16);
        x.flip(14, 16);
        Due.answer("repairByParity() of the first and the last entry", x.repairByParity(), 2);
        Due.answer("value(5)", x.value(5), 0);
    }

    private static void costs() {
        Due.sentence("Costs (first value; range)");
        int[] first = {4, 2, 1};
        for (int what = 0; what <= 2; what++) {
            int k = what;
            HalfTables x = new HalfTables();
            Due.answer("value(" + (2 + what) + ")", x.value(2 + what), first[what]);
            Due.answer("setCost(" + what + ", 1)", x.setCost(what, 1), first[what]);
            Due.answer("setCost(" + what + ", 50)", x.setCost(what, 50), 1);
            Due.answer("setCost(" + what + ", 49)", x.setCost(what, 49), 50);
            Due.answer("setCost(" + what + ", 2)", x.setCost(what, 2), 49);
            Due.answer("value(" + (2 + what) + ")", x.value(2 + what), 2);
            for (int other = 0; other <= 2; other++) {
                if (other != what) {
                    Due.answer("value(" + (2 + other) + ")", x.value(2 + other), first[other]);
                }
            }
            Due.refusedInAll("setCost(" + k + ", v)", Due.ARGUMENT, (y, v) -> y.setCost(k, v),
                LEAST, -1, 0, 51, 52, MOST);
        }
        Due.refusedInAll("setCost(v, 1)", Due.ARGUMENT, (x, v) -> x.setCost(v, 1), LEAST, -1, 3, 4, MOST);
        Due.refusedInAll("setCost(v, 0)", Due.ARGUMENT, (x, v) -> x.setCost(v, 0), -1, 3);
    }

    private static void setWidthStartsAnew() {
        Due.sentence("the table is true then, all registers are 0, and the account is 0; the costs stay");
        for (int width = 3; width <= 8; width++) {
            HalfTables x = Made.busy(8);
            x.clearText();
            Due.answer("setWidth(" + width + ") with two wrong entries", x.setWidth(width), 2);
            Due.answer("value(5)", x.value(5), 0);
            Due.answer("account()", x.account(), 0);
            for (int register = 0; register <= 7; register++) {
                Due.answer("register(" + register + ")", x.register(register), 0);
            }
            Due.answer("costs", x.value(2) * 10000 + x.value(3) * 100 + x.value(4), 70503);
            for (int n = 0; n <= 2 * Made.greatest(width) && n < 400; n++) {
                Due.answer("entry(" + n + ", 0) of width " + width, x.entry(n, 0), Made.truth(n));
            }
        }
        Due.sentence("Returns how many entries had a wrong bit before");
        HalfTables x = Made.ofWidth(3);
        Due.answer("setWidth(3) of a true table", x.setWidth(3), 0);
        for (int n = 0; n <= 14; n++) {
            x.flip(n, n);
        }
        x.flip(14, 15);
        Due.answer("setWidth(8), all entries wrong", x.setWidth(8), 15);
        x.flip(9, 3);
        x.flip(9, 3);
        Due.answer("setWidth(4), flipped there and back", x.setWidth(4), 0);
        x.flip(0, 0);
        Due.answer("setWidth(4), the first entry wrong", x.setWidth(4), 1);
        x.flip(30, 0);
        Due.answer("setWidth(3), the last entry wrong", x.setWidth(3), 1);
    }

    private static void byTable() {
        Due.sentence("the entry a + b minus the entry that is the difference, the greater one minus the lesser one");
        HalfTables x = new HalfTables();
        x.flip(8, 5);
        Due.answer("multiply(5, 3, 0), a wrong sum", x.multiply(5, 3, 0), 15 + 32);
        Due.answer("multiply(3, 5, 0), a wrong sum", x.multiply(3, 5, 0), 15 + 32);
        Due.answer("multiply(4, 4, 0), a wrong sum of a = b", x.multiply(4, 4, 0), 16 + 32);
        Due.answer("multiply(9, 1, 0), a wrong difference", x.multiply(9, 1, 0), 9 - 32);
        Due.answer("multiply(1, 9, 0), a wrong difference", x.multiply(1, 9, 0), 9 - 32);
        Due.answer("multiply(8, 0, 0), sum and difference", x.multiply(8, 0, 0), 0);
        Due.answer("multiply(0, 8, 0), sum and difference", x.multiply(0, 8, 0), 0);
        Due.answer("multiply(5, 2, 0), neither", x.multiply(5, 2, 0), 10);
        x.flip(0, 2);
        Due.answer("multiply(0, 0, 0)", x.multiply(0, 0, 0), 0);
        Due.answer("multiply(1, 1, 0), difference 0", x.multiply(1, 1, 0), 1 - 4);
        Due.answer("multiply(255, 255, 0), difference 0", x.multiply(255, 255, 0), 65025 - 4);
        x.flip(510, 16);
        Due.answer("multiply(255, 255, 0), both", x.multiply(255, 255, 0), 65025 + 65536 - 4);
        x.flip(255, 16);
        Due.answer("multiply(255, 0, 0)", x.multiply(255, 0, 0), 0);
        Due.answer("multiply(254, 1, 0), the sum 255", x.multiply(254, 1, 0), 254 + 65536);
        Due.answer("multiply(255, 1, 0), neither", x.multiply(255, 1, 0), 255);
        Due.sentence("If no bit is flipped, the result is a * b");
        for (int a : new int[] {0, 1, 2, 127, 128, 254, 255}) {
            HalfTables y = new HalfTables();
            for (int b = 0; b <= 255; b += b < 250 ? 10 : 1) {
                for (int method = 0; method <= 2; method++) {
                    Due.answer("multiply(" + a + ", " + b + ", " + method + ")", y.multiply(a, b, method), a * b);
                }
            }
        }
        Due.sentence("It can be negative otherwise: the greatest and the least result");
        Due.answer("multiply(1, 1, 0)", Made.withProduct(131071).multiply(1, 1, 0), 131071);
        Due.answer("multiply(1, 1, 0)", Made.withProduct(-131071).multiply(1, 1, 0), -131071);
        Due.answer("multiply(1, 1, 0)", Made.withProduct(-1).multiply(1, 1, 0), -1);
        Due.answer("multiply(1, 1, 1)", Made.withProduct(-1).multiply(1, 1, 1), 1);
        Due.answer("multiply(1, 1, 2)", Made.withProduct(-1).multiply(1, 1, 2), 1);
    }

    private static void methods() {
        Due.sentence("method: 0 to 2");
        Due.refusedInAll("multiply(1, 1, v)", Due.ARGUMENT, (x, v) -> x.multiply(1, 1, v), LEAST, -1, 3, 4, MOST);
        Due.refusedInAll("cost(1, 1, v)", Due.ARGUMENT, (x, v) -> x.cost(1, 1, v), LEAST, -1, 3, 4, MOST);
        Due.refusedInAll("fraction(1, 1, v, 0, 0)", Due.ARGUMENT, (x, v) -> x.fraction(1, 1, v, 0, 0),
            LEAST, -1, 3, MOST);
        Due.refusedInAll("cheaperPairs(v, 0)", Due.ARGUMENT, (x, v) -> x.cheaperPairs(v, 0), LEAST, -1, 3, 4, MOST);
        Due.refusedInAll("cheaperPairs(0, v)", Due.ARGUMENT, (x, v) -> x.cheaperPairs(0, v), LEAST, -1, 3, 4, MOST);
        Due.refusedInAll("cheaperPairs(v, v)", Due.ARGUMENT, (x, v) -> x.cheaperPairs(v, v), -1, 3);
    }

    private static void pricesOfMethods() {
        // b, additions and shifts by shifts, additions and shifts recoded
        int[][] rows = {
            {0, 0, 0, 0, 0}, {1, 1, 0, 2, 1}, {2, 1, 1, 2, 2}, {3, 2, 1, 2, 2}, {4, 1, 2, 2, 3}, {5, 2, 2, 4, 3},
            {6, 2, 2, 2, 3}, {7, 3, 2, 2, 3}, {8, 1, 3, 2, 4}, {15, 4, 3, 2, 4}, {16, 1, 4, 2, 5}, {31, 5, 4, 2, 5},
            {32, 1, 5, 2, 6}, {63, 6, 5, 2, 6}, {64, 1, 6, 2, 7}, {85, 4, 6, 8, 7}, {127, 7, 6, 2, 7},
            {128, 1, 7, 2, 8}, {129, 2, 7, 4, 8}, {170, 4, 7, 8, 8}, {254, 7, 7, 2, 8}, {255, 8, 7, 2, 8},
        };
        int[][] costs = {{4, 2, 1}, {1, 1, 1}, {50, 50, 50}, {50, 1, 37}, {1, 50, 1}, {3, 1, 50}};
        for (int[] cost : costs) {
            for (int[] row : rows) {
                HalfTables x = new HalfTables();
                for (int what = 0; what <= 2; what++) {
                    x.setCost(what, cost[what]);
                }
                int b = row[0];
                for (int a : new int[] {0, 1, 255}) {
                    String pair = "cost(" + a + ", " + b + ", ";
                    Due.sentence("It costs 2 readings and 3 additions");
                    Due.answer(pair + "0)", x.cost(a, b, 0), 2 * cost[0] + 3 * cost[1]);
                    Due.sentence("an addition for each of these bits that is 1, and a shift for each number from 1");
                    Due.answer(pair + "1)", x.cost(a, b, 1), row[1] * cost[1] + row[2] * cost[2]);
                    Due.sentence("an addition for each power that is added or subtracted, and a shift for each number");
                    Due.answer(pair + "2)", x.cost(a, b, 2), row[3] * cost[1] + row[4] * cost[2]);
                }
            }
        }
    }

    private static void cheapestOfSeveral() {
        Due.sentence("Returns the method, of several as cheap the lowest one");
        // 7 by shifts: 3 additions, 2 shifts; recoded: 2 additions, 3 shifts.
        Due.answer("cheapest(9, 7), 23, 25, 25", cheapest(4, 5, 5, 7), 0);
        Due.answer("cheapest(9, 7), 25, 25, 25", cheapest(5, 5, 5, 7), 0);
        Due.answer("cheapest(9, 7), 27, 25, 25", cheapest(6, 5, 5, 7), 1);
        Due.answer("cheapest(9, 7), 27, 23, 22", cheapest(6, 5, 4, 7), 2);
        Due.answer("cheapest(9, 7), 27, 27, 28", cheapest(6, 5, 6, 7), 0);
        Due.answer("cheapest(9, 7), 29, 27, 28", cheapest(7, 5, 6, 7), 1);
        // 85 by shifts: 4 additions, 6 shifts.
        Due.answer("cheapest(9, 85), 12, 14, 23", cheapest(3, 2, 1, 85), 0);
        Due.answer("cheapest(9, 85), 14, 14, 23", cheapest(4, 2, 1, 85), 0);
        Due.answer("cheapest(9, 85), 16, 14, 23", cheapest(5, 2, 1, 85), 1);
        // 255 recoded: 2 additions, 8 shifts.
        Due.answer("cheapest(9, 255), 10, 23, 12", cheapest(2, 2, 1, 255), 0);
        Due.answer("cheapest(9, 255), 12, 23, 12", cheapest(3, 2, 1, 255), 0);
        Due.answer("cheapest(9, 255), 14, 23, 12", cheapest(4, 2, 1, 255), 2);
        Due.answer("cheapest(9, 0), 5, 0, 0", cheapest(1, 1, 1, 0), 1);
        Due.sentence("the cheapest method that gives the right product");
        HalfTables x = Made.withCosts(1, 5, 5);
        Due.answer("cheapest(9, 7) by a true table", x.cheapest(9, 7), 0);
        x.flip(16, 0);
        Due.answer("cheapest(9, 7) by a wrong sum, both others alike", x.cheapest(9, 7), 1);
        Due.answer("cheapest(9, 15) by a true pair", x.cheapest(9, 15), 0);
        Due.answer("cheapest(17, 1) by a wrong difference", x.cheapest(17, 1), 1);
        Due.answer("cheapest(17, 15) by a true pair", x.cheapest(17, 15), 0);
        x.flip(2, 0);
        Due.answer("cheapest(9, 7), sum up by 1, difference down by 1", x.cheapest(9, 7), 1);
        x.flip(2, 0);
        // The entry 4 tells 5 for 4, as the entry 16 tells 65 for 64.
        x.flip(4, 0);
        Due.answer("multiply(10, 6, 0), both up by 1", x.multiply(10, 6, 0), 60);
        Due.answer("cheapest(10, 6), both up by 1", x.cheapest(10, 6), 0);
        Due.answer("cheapest(6, 10), both up by 1", x.cheapest(6, 10), 0);
        Due.answer("cheapest(16, 0), read twice: 0 is cheaper", x.cheapest(16, 0), 1);
        Due.answer("cheapest(0, 16), read twice", x.cheapest(0, 16), 0);
    }

    private static int cheapest(int reading, int addition, int shift, int b) {
        return Made.withCosts(reading, addition, shift).cheapest(9, b);
    }

    private static void fractions() {
        Due.sentence("rounded to a number with q = p divided by 2 to the power of k, exactly");
        int[] wholes = {-4, -3, -2, -1, 0, 1, 2, 3};
        for (int places = 0; places <= 16; places++) {
            int one = 1 << places;
            for (int whole : wholes) {
                for (int rest : new int[] {0, 1, one / 2 - 1, one / 2, one / 2 + 1, one - 1}) {
                    int product = whole * one + rest;
                    if (rest >= 0 && rest < one && Math.abs(product) <= 131071) {
                        fractionsOf(product, places);
                    }
                }
            }
        }
        Due.sentence("in the way 0 down; 1 of two as near the greater one; 2 of two as near the even one");
        // p, k, down, to the greater, to the even
        int[][] rows = {
            {5, 1, 2, 3, 2}, {7, 1, 3, 4, 4}, {-5, 1, -3, -2, -2}, {-7, 1, -4, -3, -4}, {1, 1, 0, 1, 0},
            {-1, 1, -1, 0, 0}, {1, 2, 0, 0, 0}, {3, 2, 0, 1, 1}, {-1, 2, -1, 0, 0}, {-3, 2, -1, -1, -1},
            {32767, 16, 0, 0, 0}, {32768, 16, 0, 1, 0}, {32769, 16, 0, 1, 1}, {98303, 16, 1, 1, 1},
            {98304, 16, 1, 2, 2}, {98305, 16, 1, 2, 2}, {131071, 16, 1, 2, 2}, {131071, 0, 131071, 131071, 131071},
            {-32767, 16, -1, 0, 0}, {-32768, 16, -1, 0, 0}, {-32769, 16, -1, -1, -1}, {-98303, 16, -2, -1, -1},
            {-98304, 16, -2, -1, -2}, {-98305, 16, -2, -2, -2}, {-131071, 16, -2, -2, -2},
            {-131071, 0, -131071, -131071, -131071}, {0, 16, 0, 0, 0}, {0, 0, 0, 0, 0},
        };
        for (int[] row : rows) {
            HalfTables x = Made.withProduct(row[0]);
            for (int way = 0; way <= 2; way++) {
                Due.answer("fraction of " + row[0] + " with " + row[1] + " places in the way " + way,
                    x.fraction(1, 1, 0, row[1], way), row[2 + way]);
            }
        }
        Due.refusedInAll("fraction, places", Due.ARGUMENT, (x, v) -> x.fraction(1, 1, 0, v, 0),
            LEAST, -1, 17, 18, 32, MOST);
        Due.refusedInAll("fraction, way", Due.ARGUMENT, (x, v) -> x.fraction(1, 1, 0, 0, v), LEAST, -1, 3, 4, MOST);
        Due.refusedInAll("fraction, all", Due.ARGUMENT, (x, v) -> x.fraction(v, v, v, v, v), -1, MOST);
    }

    private static void fractionsOf(int product, int places) {
        BigDecimal exact = new BigDecimal(product).divide(new BigDecimal(BigInteger.ONE.shiftLeft(places)));
        BigDecimal half = new BigDecimal("0.5");
        long[] due = {
            exact.setScale(0, RoundingMode.FLOOR).longValueExact(),
            exact.add(half).setScale(0, RoundingMode.FLOOR).longValueExact(),
            exact.setScale(0, RoundingMode.HALF_EVEN).longValueExact(),
        };
        HalfTables x = Made.withProduct(product);
        for (int way = 0; way <= 2; way++) {
            Due.answer("fraction of " + product + " with " + places + " places in the way " + way,
                x.fraction(1, 1, 0, places, way), due[way]);
        }
    }

    private static void errors() {
        Due.sentence("the rounded number (by method 1), converted to double, minus (a * b ..)");
        HalfTables x = new HalfTables();
        for (int way = 0; way <= 2; way++) {
            Due.answer("error(255, 255, 0, " + way + ")", x.error(255, 255, 0, way), 0.0);
            Due.answer("error(0, 0, 16, " + way + ")", x.error(0, 0, 16, way), 0.0);
            Due.answer("error(16, 16, 8, " + way + ")", x.error(16, 16, 8, way), 0.0);
        }
        Due.answer("error(17, 15, 8, 0), of 255 / 256", x.error(17, 15, 8, 0), -255.0 / 256);
        Due.answer("error(17, 15, 8, 1), of 255 / 256", x.error(17, 15, 8, 1), 1.0 / 256);
        Due.answer("error(1, 127, 8, 1), of 127 / 256", x.error(1, 127, 8, 1), -127.0 / 256);
        Due.answer("error(1, 128, 8, 0), of 1 / 2", x.error(1, 128, 8, 0), -0.5);
        Due.answer("error(1, 128, 8, 1), of 1 / 2", x.error(1, 128, 8, 1), 0.5);
        Due.answer("error(1, 128, 8, 2), of 1 / 2", x.error(1, 128, 8, 2), -0.5);
        Due.answer("error(3, 128, 8, 1), of 3 / 2", x.error(3, 128, 8, 1), 0.5);
        Due.answer("error(3, 128, 8, 2), of 3 / 2", x.error(3, 128, 8, 2), 0.5);
        Due.answer("error(1, 129, 8, 2), of 129 / 256", x.error(1, 129, 8, 2), 127.0 / 256);
        Due.answer("error(1, 1, 16, 0)", x.error(1, 1, 16, 0), -1.0 / 65536);
        Due.answer("error(1, 1, 16, 1)", x.error(1, 1, 16, 1), -1.0 / 65536);
        Due.answer("error(128, 255, 16, 1), just below 1 / 2", x.error(128, 255, 16, 1), -32640.0 / 65536);
        Due.answer("error(255, 255, 16, 2)", x.error(255, 255, 16, 2), 511.0 / 65536);
        Due.answer("error by a wrong table", Made.withProduct(-131071).error(1, 1, 1, 0), -0.5);
        Due.answer("error by a wrong table", Made.withProduct(131071).error(1, 1, 0, 2), 0.0);
        Due.refusedInAll("error, places", Due.ARGUMENT, (y, v) -> (long) y.error(1, 1, v, 0),
            LEAST, -1, 17, 18, 32, MOST);
        Due.refusedInAll("error, way", Due.ARGUMENT, (y, v) -> (long) y.error(1, 1, 0, v), LEAST, -1, 3, 4, MOST);
    }

    private static void registers() {
        Due.sentence("There are 8 registers, numbered from 0; each holds an operand, 0 at first");
        HalfTables x = new HalfTables();
        for (int register = 0; register <= 7; register++) {
            Due.answer("register(" + register + ")", x.register(register), 0);
            Due.answer("setRegister(" + register + ", 255)", x.setRegister(register, 255), 0);
            Due.answer("setRegister(" + register + ", ..)", x.setRegister(register, register), 255);
        }
        for (int register = 0; register <= 7; register++) {
            Due.answer("register(" + register + ")", x.register(register), register);
            Due.answer("setRegister(" + register + ", 0)", x.setRegister(register, 0), register);
        }
        Due.refusedInAll("register(v)", Due.INDEX, (y, v) -> y.register(v), LEAST, -1, 8, 9, MOST);
        Due.refusedInAll("setRegister(v, 0)", Due.INDEX, (y, v) -> y.setRegister(v, 0), LEAST, -1, 8, 9, MOST);
        Due.sentence("setRegister: IndexOutOfBoundsException is listed first");
        Due.refusedInAll("setRegister(v, 256)", Due.INDEX, (y, v) -> y.setRegister(v, 256), -1, 8);
        Due.refusedInAll("setRegister(v, -1)", Due.INDEX, (y, v) -> y.setRegister(v, -1), -1, 8);
    }

    private static void whats() {
        Due.sentence("entry, what: 0 to 4");
        Due.refusedInAll("entry(0, v)", Due.ARGUMENT, (x, v) -> x.entry(0, v), LEAST, -1, 5, 6, MOST);
        Due.sentence("entry: IndexOutOfBoundsException is listed first");
        Due.refusedInAll("entry(v, 5)", Due.INDEX, (x, v) -> x.entry(v, 5), -1, 511);
        Due.refusedInAll("entry(v, -1)", Due.INDEX, (x, v) -> x.entry(v, -1), -1, 511);
        Due.sentence("value, what: 0 the width .. 7 the wrong bits of all entries");
        Due.refusedInAll("value(v)", Due.ARGUMENT, (x, v) -> x.value(v), LEAST, -1, 8, 9, MOST);
        HalfTables x = Made.ofWidth(3);
        int[] due = {3, 15, 4, 2, 1, 0, 0, 0};
        for (int what = 0; what <= 7; what++) {
            Due.answer("value(" + what + ")", x.value(what), due[what]);
        }
        Due.sentence("5 the entries with a wrong bit, 6 those of them that the parity finds, 7 the wrong bits of all");
        for (int n = 0; n <= 14; n++) {
            x.flip(n, 0);
            Due.answer("value(5)", x.value(5), n + 1);
            Due.answer("value(6)", x.value(6), n + 1);
            Due.answer("value(7)", x.value(7), n + 1);
        }
        for (int n = 0; n <= 14; n++) {
            x.flip(n, 16);
            Due.answer("value(5)", x.value(5), 15);
            Due.answer("value(6)", x.value(6), 14 - n);
            Due.answer("value(7)", x.value(7), 16 + n);
        }
    }

    public static void main(String[] args) {
        widths();
        operands();
        entries();
        trueValues();
        bitsOfEntries();
        parities();
        costs();
        setWidthStartsAnew();
        byTable();
        methods();
        pricesOfMethods();
        cheapestOfSeveral();
        fractions();
        errors();
        registers();
        whats();
        Due.end();
    }
}
