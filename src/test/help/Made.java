/** The objects that the tests of boundaries begin with. */
final class Made {
    static final String BUSY_TEXT = "a=3;b=a*h;c=b-a;";

    private Made() {
    }

    static int greatest(int width) {
        return (1 << width) - 1;
    }

    /** The true value of an entry, written without n * n. */
    static int truth(int entry) {
        return entry / 2 * (entry - entry / 2);
    }

    static HalfTables ofWidth(int width) {
        HalfTables x = new HalfTables();
        x.setWidth(width);
        return x;
    }

    static HalfTables ofText(String text) {
        HalfTables x = new HalfTables();
        type(x, text);
        return x;
    }

    static void type(HalfTables x, String text) {
        x.clearText();
        for (char c : text.toCharArray()) {
            x.append(c);
        }
    }

    /** With other costs, wrong entries, registers, an account, a text, and four saved states that all differ. */
    static HalfTables busy(int width) {
        HalfTables x = ofWidth(width);
        type(x, BUSY_TEXT);
        x.setCost(0, 7);
        x.setCost(1, 5);
        x.setCost(2, 3);
        x.flip(2, 4);
        x.setRegister(7, greatest(width));
        x.run();
        x.flip(2 * greatest(width), 16);
        x.setRegister(0, 5);
        x.setRegister(1, 6);
        return x;
    }

    /** As busy as that, but no state is saved. */
    static HalfTables busyWithoutSaved() {
        HalfTables x = busy(5);
        for (int i = 0; i < 4; i++) {
            x.undo();
        }
        return x;
    }

    /** So many states are saved, and all differ. */
    static HalfTables saved(int states) {
        HalfTables x = ofText("a=1;a=a+a;");
        for (int i = 0; i < states; i++) {
            x.setCost(0, 10 + i);
        }
        return x;
    }

    static HalfTables withCosts(int reading, int addition, int shift) {
        HalfTables x = new HalfTables();
        x.setCost(0, reading);
        x.setCost(1, addition);
        x.setCost(2, shift);
        return x;
    }

    /** The table gives this number for 1 * 1, out of the entries 2 and 0, true 1 and 0. */
    static HalfTables withProduct(int product) {
        HalfTables x = new HalfTables();
        int sum = Math.max(product, 0);
        int difference = Math.max(-product, 0);
        for (int bit = 0; bit <= 16; bit++) {
            if ((sum >> bit & 1) != (1 >> bit & 1)) {
                x.flip(2, bit);
            }
            if ((difference >> bit & 1) == 1) {
                x.flip(0, bit);
            }
        }
        return x;
    }
}
