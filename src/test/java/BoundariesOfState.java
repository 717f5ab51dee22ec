/** The sentences of the document that name a boundary of the checks, of the account, of undo and of the digest. */
public final class BoundariesOfState {
    private static void noWrongPairs() {
        Due.sentence("NONE if there is none");
        Due.answer("NONE", HalfTables.NONE, -1);
        for (int width = 3; width <= 8; width++) {
            checks(Made.ofWidth(width), "true table of width " + width, 0, -1, -1);
        }
        HalfTables x = Made.ofWidth(3);
        for (int n = 0; n <= 14; n++) {
            x.flip(n, 16);
        }
        checks(x, "errors that all cancel out", 0, -1, -1);
        Due.answer("value(5)", x.value(5), 15);
        x.repair(14);
        checks(x, "all entries but the last cancel out", 1, 7007, 0);
        x.flip(14, 16);
        x.repair(0);
        checks(x, "all entries but the first cancel out", 7, 1001, 0);
        x.flip(0, 16);
        checks(x, "errors that all cancel out again", 0, -1, -1);
        Due.answer("wrongPairsWith(0)", x.wrongPairsWith(0), 0);
        Due.answer("wrongPairsWith(14)", x.wrongPairsWith(14), 0);
    }

    private static void checks(HalfTables x, String what, int pairs, int first, int suspect) {
        Due.answer("wrongPairs(), " + what, x.wrongPairs(), pairs);
        Due.answer("firstWrong(), " + what, x.firstWrong(), first);
        Due.answer("suspect(), " + what, x.suspect(), suspect);
    }

    private static void pairsOfOneEntry() {
        for (int width = 3; width <= 8; width++) {
            int g = Made.greatest(width);
            HalfTables x = Made.ofWidth(width);
            Due.sentence("the number of pairs for which method 0 does not give a * b");
            x.flip(2 * g, 0);
            checks(x, "the last entry wrong", 1, 1001 * g, 0);
            Due.answer("wrongPairsWith(0)", x.wrongPairsWith(0), 1);
            Due.answer("wrongPairsWith(" + 2 * g + ")", x.wrongPairsWith(2 * g), 1);
            Due.answer("wrongPairsWith(" + (2 * g - 1) + ")", x.wrongPairsWith(2 * g - 1), 0);
            x.repair(2 * g);
            x.flip(2 * g - 1, 0);
            checks(x, "the last entry but one wrong", 2, 1000 * (g - 1) + g, 1);
            Due.answer("wrongPairsWith(1)", x.wrongPairsWith(1), 2);
            x.repair(2 * g - 1);
            x.flip(0, 0);
            checks(x, "the first entry wrong", g, 1001, 0);
            Due.answer("wrongPairsWith(0)", x.wrongPairsWith(0), g);
            Due.answer("wrongPairsWith(2)", x.wrongPairsWith(2), 1);
            Due.answer("wrongPairsWith(1)", x.wrongPairsWith(1), 0);
            x.repair(0);
            x.flip(g, 0);
            Due.sentence("reads this entry (once or twice)");
            // g + 0 is read twice and right; g - 1 pairs have the sum g and another difference.
            checks(x, "the entry of g + 0 wrong", g - 1, 1000 + g - 1, g);
            Due.answer("wrongPairsWith(" + g + ")", x.wrongPairsWith(g), g - 1);
            x.repair(g);
            x.flip(1, 0);
            checks(x, "the entry 1 wrong", 2 * g - 2, 1002, 1);
            Due.answer("wrongPairsWith(1)", x.wrongPairsWith(1), 2 * g - 2);
        }
    }

    /** The pairs of a table of width 3, counted by its stored values alone. */
    private static int pairs(int[] stored, int entry) {
        int count = 0;
        for (int a = 0; a <= 7; a++) {
            for (int b = 0; b <= 7; b++) {
                int difference = Math.max(a, b) - Math.min(a, b);
                boolean read = entry < 0 || a + b == entry || difference == entry;
                count += read && stored[a + b] - stored[difference] != a * b ? 1 : 0;
            }
        }
        return count;
    }

    private static void pairsOfTwoEntries() {
        Due.sentence("the entry with the greatest wrongPairsWith(), of several the lowest one");
        for (int one = 0; one <= 14; one++) {
            for (int other = 0; other <= 14; other++) {
                for (int bit = 0; bit <= 16; bit += 8) {
                    HalfTables x = Made.ofWidth(3);
                    x.flip(one, 0);
                    x.flip(other, bit);
                    allChecks(x, "flip(" + one + ", 0) and flip(" + other + ", " + bit + ")");
                }
            }
        }
        Due.sentence("Counts the pairs for which the table is wrong: all that can be");
        HalfTables x = Made.ofWidth(3);
        for (int n = 0; n <= 14; n++) {
            x.flip(n, n);
        }
        // The difference 1 is that of 12 pairs, the entry 2 is read by 11.
        checks(x, "all entries wrong, each in another way", 49, 1001, 1);
        allChecks(x, "all entries wrong, each in another way");
    }

    private static void allChecks(HalfTables x, String what) {
        int[] stored = new int[15];
        for (int n = 0; n <= 14; n++) {
            stored[n] = x.entry(n, 0);
        }
        int suspect = -1;
        for (int n = 0; n <= 14; n++) {
            int due = pairs(stored, n);
            Due.answer("wrongPairsWith(" + n + "), " + what, x.wrongPairsWith(n), due);
            if (due > 0 && (suspect < 0 || due > pairs(stored, suspect))) {
                suspect = n;
            }
        }
        Due.answer("wrongPairs(), " + what, x.wrongPairs(), pairs(stored, -1));
        Due.answer("suspect(), " + what, x.suspect(), suspect);
        Due.answer("firstWrong(), " + what, x.firstWrong(), first(stored));
    }

    private static int first(int[] stored) {
        for (int a = 0; a <= 7; a++) {
            for (int b = 0; b <= 7; b++) {
                if (stored[a + b] - stored[Math.abs(a - b)] != a * b) {
                    return 1000 * a + b;
                }
            }
        }
        return -1;
    }

    private static void checksAfterEachChange() {
        Due.sentence("the entry that is read for the most wrong pairs: as the first call after each change");
        HalfTables x = Made.ofWidth(3);
        x.flip(4, 0);
        Due.answer("suspect() after flip", x.suspect(), 4);
        x.flip(13, 0);
        x.repair(4);
        Due.answer("suspect() after repair", x.suspect(), 1);
        x.repairByParity();
        Due.answer("suspect() after repairByParity", x.suspect(), -1);
        x.undo();
        Due.answer("suspect() after undo", x.suspect(), 1);
        x.setWidth(4);
        Due.answer("suspect() after setWidth", x.suspect(), -1);
        Due.sentence("the pairs for which method 0 reads this entry: as the first call after each change");
        HalfTables y = Made.ofWidth(3);
        y.flip(14, 0);
        Due.answer("wrongPairsWith(0) after flip", y.wrongPairsWith(0), 1);
        y.repair(14);
        Due.answer("wrongPairsWith(0) after repair", y.wrongPairsWith(0), 0);
        y.undo();
        Due.answer("wrongPairsWith(14) after undo", y.wrongPairsWith(14), 1);
        y.repairByParity();
        Due.answer("wrongPairsWith(14) after repairByParity", y.wrongPairsWith(14), 0);
        y.undo();
        y.setWidth(4);
        Due.answer("wrongPairsWith(14) after setWidth", y.wrongPairsWith(14), 0);
    }

    private static void firstOfSeveral() {
        Due.sentence("the one with the least a, of several with the least b");
        HalfTables x = new HalfTables();
        x.flip(510, 16);
        Due.answer("firstWrong()", x.firstWrong(), 255255);
        x.flip(509, 16);
        Due.answer("firstWrong()", x.firstWrong(), 254255);
        x.flip(257, 16);
        Due.answer("firstWrong()", x.firstWrong(), 2255);
        x.flip(256, 16);
        Due.answer("firstWrong()", x.firstWrong(), 1255);
        x.flip(255, 16);
        Due.answer("firstWrong(), 1 + 254, and 1 + 255 is wrong too", x.firstWrong(), 1254);
        x.flip(3, 16);
        Due.answer("firstWrong(), 1 + 2", x.firstWrong(), 1002);
        x.flip(2, 16);
        Due.answer("firstWrong(), 1 + 1", x.firstWrong(), 1001);
        x.flip(0, 16);
        Due.answer("firstWrong(), 1 + 1 and 1 - 1 cancel out", x.firstWrong(), 1002);
    }

    private static void cheaper() {
        Due.sentence("the number of pairs of operands a and b for which method costs less than other");
        for (int method = 0; method <= 2; method++) {
            Due.answer("cheaperPairs(" + method + ", same)", new HalfTables().cheaperPairs(method, method), 0);
            Due.answer("cheaperPairs(" + method + ", same)", Made.busy(3).cheaperPairs(method, method), 0);
        }
        // 0 to 7 by shifts: 0, a, a + s, 2a + s, a + 2s, 2a + 2s, 2a + 2s, 3a + 2s;
        // recoded: 0, 2a + s, 2a + 2s, 2a + 2s, 2a + 3s, 4a + 3s, 2a + 3s, 2a + 3s.
        cheaperOfWidth3(Made.withCosts(50, 5, 5), new int[] {0, 0, 64, 48, 64, 0});
        cheaperOfWidth3(Made.withCosts(50, 6, 5), new int[] {0, 0, 64, 48, 64, 8});
        cheaperOfWidth3(Made.withCosts(50, 5, 6), new int[] {0, 0, 64, 56, 64, 0});
        // The table costs 2r + 3a: 20 and 19, as much as 7 by shifts, and 19, when that costs 21.
        cheaperOfWidth3(Made.withCosts(1, 6, 1), new int[] {0, 8, 56, 48, 56, 8});
        cheaperOfWidth3(Made.withCosts(5, 3, 5), new int[] {0, 32, 56, 56, 32, 0});
        cheaperOfWidth3(Made.withCosts(5, 3, 6), new int[] {8, 32, 56, 56, 32, 0});
        Due.sentence("the number of pairs: all, none, and those with the second operand 0 of the width 8");
        HalfTables x = Made.withCosts(50, 1, 1);
        Due.answer("cheaperPairs(1, 0), all", x.cheaperPairs(1, 0), 65536);
        Due.answer("cheaperPairs(2, 0), all", x.cheaperPairs(2, 0), 65536);
        Due.answer("cheaperPairs(0, 1), none", x.cheaperPairs(0, 1), 0);
        HalfTables y = Made.withCosts(1, 1, 50);
        Due.answer("cheaperPairs(1, 0), b of 0 and 1", y.cheaperPairs(1, 0), 512);
        Due.answer("cheaperPairs(0, 1), b of 2 to 255", y.cheaperPairs(0, 1), 65536 - 512);
        Due.answer("cheaperPairs(2, 0), b of 0", y.cheaperPairs(2, 0), 256);
        Due.answer("cheaperPairs(0, 2), b of 1 to 255", y.cheaperPairs(0, 2), 65536 - 256);
    }

    /** The counts of 0 and 1, 0 and 2, 1 and 0, 1 and 2, 2 and 0, 2 and 1; checked by each cost, too. */
    private static void cheaperOfWidth3(HalfTables x, int[] written) {
        x.setWidth(3);
        int at = 0;
        for (int method = 0; method <= 2; method++) {
            for (int other = 0; other <= 2; other++) {
                if (method != other) {
                    int due = 0;
                    for (int b = 0; b <= 7; b++) {
                        due += x.cost(7, b, method) < x.cost(0, b, other) ? 8 : 0;
                    }
                    String what = "cheaperPairs(" + method + ", " + other + ") of costs " + x.value(2) + ", "
                        + x.value(3) + ", " + x.value(4);
                    Due.answer(what, x.cheaperPairs(method, other), written[at]);
                    Due.answer(what + ", by cost()", due, written[at]);
                    at++;
                }
            }
        }
    }

    private static void accounts() {
        Due.sentence("Returns the costs of all statements that were run so far, since the account was 0 last");
        HalfTables x = new HalfTables();
        Due.answer("account()", x.account(), 0);
        Due.answer("clearAccount() of a new object", x.clearAccount(), 0);
        Due.answer("run() of no text", x.run(), 0);
        Due.answer("account()", x.account(), 0);
        Made.type(x, "a=b+c;");
        x.run();
        x.run();
        Due.answer("account()", x.account(), 4);
        x.setCost(1, 50);
        Due.answer("account() after setCost", x.account(), 4);
        x.run();
        Due.answer("account()", x.account(), 54);
        Due.answer("clearAccount()", x.clearAccount(), 54);
        Due.answer("clearAccount() again", x.clearAccount(), 0);
        x.run();
        Due.answer("account()", x.account(), 50);
        x.setWidth(8);
        Due.answer("account() after setWidth", x.account(), 0);
        Due.sentence("An account counts the costs of all that is run");
        HalfTables y = Made.withCosts(50, 50, 50);
        Made.type(y, "a=255;" + "b=a#a;".repeat(15));
        for (int i = 1; i <= 90; i++) {
            Due.answer("run()", y.run(), 7500);
            Due.answer("account()", y.account(), 7500L * i);
        }
    }

    private static void undoable() {
        Due.sentence("Each successful call of an undoable method saves the state from before, at most 4");
        for (int states = 0; states <= 4; states++) {
            int s = states;
            undoableOf(() -> Made.saved(s), " with " + s + " saved");
            undoableOf(() -> {
                HalfTables x = Made.busyWithoutSaved();
                for (int i = 0; i < s; i++) {
                    x.flip(i, i);
                }
                return x;
            }, " when busy, with " + s + " saved");
        }
        undoableOf(() -> Made.busy(8), " when busy");
    }

    private static void undoableOf(Due.Maker maker, String when) {
        Due.savesOneState("setWidth(3)" + when, maker, x -> x.setWidth(3));
        Due.savesOneState("setWidth(8)" + when, maker, x -> x.setWidth(8));
        Due.savesOneState("setCost(0, 50)" + when, maker, x -> x.setCost(0, 50));
        Due.savesOneState("setCost(1, 1)" + when, maker, x -> x.setCost(1, 1));
        Due.savesOneState("setCost(2, 50)" + when, maker, x -> x.setCost(2, 50));
        Due.savesOneState("flip(0, 16)" + when, maker, x -> x.flip(0, 16));
        Due.savesOneState("flip of the last entry" + when, maker, x -> x.flip(x.value(1) - 1, 0));
        Due.savesOneState("repair(2)" + when, maker, x -> x.repair(2));
        Due.savesOneState("repairByParity()" + when, maker, x -> x.repairByParity());
        Due.savesOneState("setRegister(0, 7)" + when, maker, x -> x.setRegister(0, 7));
        Due.savesOneState("setRegister(7, 0)" + when, maker, x -> x.setRegister(7, 0));
        Due.savesOneState("clearAccount()" + when, maker, x -> x.clearAccount());
        Due.savesOneState("run()" + when, maker, x -> x.run());
        Due.sentence("even if the call changes nothing");
        Due.savesOneState("setCost of the same" + when, maker, x -> x.setCost(0, x.value(2)));
        Due.savesOneState("setRegister of the same" + when, maker, x -> x.setRegister(3, x.register(3)));
        Due.savesOneState("repair of a true entry" + when, maker, x -> x.repair(9));
    }

    private static void undoableThatChangesNothing() {
        Due.sentence("even if the call changes nothing: of a new object");
        Due.Call[] calls = {
            x -> x.setWidth(8), x -> x.setCost(2, 1), x -> x.repair(510), x -> x.repairByParity(),
            x -> x.setRegister(7, 0), x -> x.clearAccount(), x -> x.run(),
        };
        for (int i = 0; i < calls.length; i++) {
            HalfTables x = new HalfTables();
            for (int saved = 1; saved <= 6; saved++) {
                calls[i].of(x);
                long due = new HalfTables().digest() + Math.min(saved, 4);
                Due.answer("digest() after the call " + i + ", " + saved + " times", x.digest(), due);
            }
        }
    }

    private static void notUndoable() {
        Due.sentence("a method whose description says \"undoable\": the others save nothing, and change nothing");
        Due.Call[] calls = {
            x -> x.multiply(3, 5, 0), x -> x.multiply(7, 7, 1), x -> x.multiply(7, 7, 2), x -> x.cost(1, 7, 1),
            x -> x.cheapest(1, 1), x -> x.fraction(1, 3, 0, 1, 1), x -> (long) x.error(1, 3, 1, 2),
            x -> x.entry(2, 3), x -> x.register(7), x -> x.value(7), x -> x.account(), x -> x.wrongPairs(),
            x -> x.wrongPairsWith(2), x -> x.firstWrong(), x -> x.suspect(), x -> x.cheaperPairs(0, 1),
            x -> x.digest(),
        };
        for (int i = 0; i < calls.length; i++) {
            Due.changesNothing("call " + i, HalfTables::new, calls[i]);
            Due.changesNothing("call " + i, () -> Made.busy(3), calls[i]);
            Due.changesNothing("call " + i, Made::busyWithoutSaved, calls[i]);
            Due.changesNothing("call " + i, () -> Made.saved(2), calls[i]);
        }
        Due.changesNothing("clearText() of no text", HalfTables::new, x -> x.clearText());
        Due.Call sameText = x -> typedAgain(x, Made.BUSY_TEXT);
        Due.changesNothing("clearText() and the same bytes again", () -> Made.busy(3), sameText);
        Due.changesNothing("clearText() and the same bytes again", Made::busyWithoutSaved, sameText);
    }

    private static long typedAgain(HalfTables x, String text) {
        Made.type(x, text);
        return text.length();
    }

    private static void savedStates() {
        Due.sentence("at most 4 states are saved, and the oldest is dropped first");
        for (int calls = 0; calls <= 9; calls++) {
            HalfTables x = new HalfTables();
            for (int i = 0; i < calls; i++) {
                x.setRegister(0, i + 1);
            }
            int saved = Math.min(calls, 4);
            for (int i = 1; i <= saved; i++) {
                Due.answer("undo() " + i + " of " + calls + " calls", x.undo(), saved - i);
                Due.answer("register(0)", x.register(0), calls - i);
            }
            int left = calls - saved;
            Due.refused("undo() after " + calls + " calls", Due.STATE, () -> undone(left, saved), y -> y.undo());
            Due.answer("undo() of one call more", x.setRegister(0, 99) + x.undo(), calls - saved);
        }
        Due.sentence("IllegalStateException if there is no saved state");
        Due.refused("undo() of a new object", Due.STATE, HalfTables::new, x -> x.undo());
        Due.refused("undo() when all is undone", Due.STATE, Made::busyWithoutSaved, x -> x.undo());
        Due.sentence("Restores the most recently saved state and removes it from the saved states");
        HalfTables x = new HalfTables();
        x.setRegister(0, 1);
        x.setRegister(0, 2);
        x.setRegister(0, 3);
        Due.answer("undo()", x.undo(), 2);
        x.setRegister(0, 4);
        Due.answer("undo() of 4", x.undo(), 2);
        Due.answer("register(0)", x.register(0), 2);
        Due.answer("undo() of 2", x.undo(), 1);
        Due.answer("register(0)", x.register(0), 1);
        Due.answer("undo() of 1", x.undo(), 0);
        Due.answer("register(0)", x.register(0), 0);
    }

    private static HalfTables undone(int left, int saved) {
        HalfTables x = new HalfTables();
        for (int i = 0; i < left + saved; i++) {
            x.setRegister(0, i + 1);
        }
        for (int i = 0; i < saved; i++) {
            x.undo();
        }
        return x;
    }

    private static void savedStateIsAllButTheText() {
        Due.sentence("The saved state contains everything except the text");
        HalfTables x = Made.busy(5);
        x.setRegister(2, 3);
        Made.type(x, "a=9;");
        Due.answer("undo()", x.undo(), 3);
        Due.answer("run() of the new text", x.run(), 0);
        Due.answer("register(0)", x.register(0), 9);
        x.clearText();
        Due.answer("undo()", x.undo(), 3);
        Due.answer("clearText() after undo()", x.clearText(), 0);
        HalfTables y = Made.ofText("a=1;");
        y.setCost(0, 9);
        y.append('b');
        Due.answer("undo()", y.undo(), 0);
        Due.answer("run() of the longer text", y.run(), -15);
        Due.answer("clearText()", y.clearText(), 5);
    }

    private static void digests() {
        Due.sentence("Start with h = 3833 and, for each of the following values v, set h = 31 * h + v");
        for (int states = 0; states <= 4; states++) {
            Due.answer("digest() with " + states + " saved", Made.saved(states).digest(),
                hash(Made.saved(states), 10, states));
        }
        Due.answer("digest() of a new object", new HalfTables().digest(), hash(new HalfTables(), 0, 0));
        String hundred = "a=b+c;".repeat(16) + "d=1;";
        Due.answer("digest() of a full text", Made.ofText(hundred).digest(), hash(new HalfTables(), 100, 0));
        for (int width = 3; width <= 7; width++) {
            Due.answer("digest() of width " + width, Made.busy(width).digest(), hash(Made.busy(width), 16, 4));
        }
        HalfTables x = withLastEntryWrong();
        Due.answer("digest() of width 8", x.digest(), hash(withLastEntryWrong(), 0, 1));
        Due.answer("account()", withGreatAccount().account(), 400000);
        Due.answer("digest() of a great account", withGreatAccount().digest(), hash(withGreatAccount(), 96, 4));
    }

    private static HalfTables withGreatAccount() {
        HalfTables x = Made.withCosts(50, 50, 50);
        x.setWidth(3);
        Made.type(x, "a=b*c;".repeat(16));
        for (int i = 0; i < 100; i++) {
            x.run();
        }
        return x;
    }

    private static HalfTables withLastEntryWrong() {
        HalfTables x = new HalfTables();
        x.flip(510, 16);
        return x;
    }

    /** An object answers 512 calls only, so most of the last entries of width 8 are taken as true, as they are here. */
    private static long hash(HalfTables x, int textLength, int saved) {
        long h = 31L * 3833 + textLength;
        for (int what = 0; what <= 7; what++) {
            h = 31 * h + x.value(what);
        }
        h = 31 * h + x.account();
        for (int register = 0; register <= 7; register++) {
            h = 31 * h + x.register(register);
        }
        int first = x.firstWrong();
        int last = x.value(1) - 1;
        for (int n = 0; n <= last; n++) {
            int value = n < 450 || n == last ? x.entry(n, 0) : Made.truth(n);
            h = 31 * h + value;
        }
        h = 31 * h + first;
        return 31 * h + saved;
    }

    private static void lastCall() {
        Due.sentence("An object is used for at most 512 calls");
        HalfTables x = Made.withCosts(50, 50, 50);
        Made.type(x, "a=255;b=a#a;b=bxb;b=b*b;c=c+a;");
        // So far 34 calls: the costs, clearText and 30 bytes.
        int cost = 500 + 50 + 250 + 50;
        for (int call = 34; call < 510; call++) {
            Due.answer("call " + (call + 1) + ", run()", x.run(), cost);
        }
        Due.answer("call 511, account()", x.account(), 476L * cost);
        Due.answer("call 512, undo()", x.undo(), 3);
    }

    public static void main(String[] args) {
        noWrongPairs();
        pairsOfOneEntry();
        pairsOfTwoEntries();
        checksAfterEachChange();
        firstOfSeveral();
        cheaper();
        accounts();
        undoable();
        undoableThatChangesNothing();
        notUndoable();
        savedStates();
        savedStateIsAllButTheText();
        digests();
        lastCall();
        Due.end();
    }
}
