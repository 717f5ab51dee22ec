import java.math.BigDecimal;
import java.math.RoundingMode;
import java.util.ArrayDeque;
import java.util.Deque;
import java.util.Random;
import java.util.regex.Matcher;
import java.util.regex.Pattern;

/** Runs of calls, the same ones each time, on the class and on a slow model written from the document. */
public final class AgainstModel {
    private static final int RUNS = 400;

    /** An object answers 512 calls; the last one of each run is digest(). */
    private static final int LAST = 511;

    private static final class Bad extends RuntimeException {
        private static final long serialVersionUID = 1;
        final Class<?> kind;

        Bad(Class<?> kind) {
            this.kind = kind;
        }
    }

    private static final class Model {
        int width = 8;
        int[] costs = {4, 2, 1};
        int[] stored = new int[0];
        int[] registers = new int[8];
        long account;
        String text = "";
        final Deque<Model> saved = new ArrayDeque<>();

        Model() {
            fresh(8);
        }

        void fresh(int newWidth) {
            width = newWidth;
            stored = new int[2 * greatest() + 1];
            for (int n = 0; n < stored.length; n++) {
                stored[n] = truth(n);
            }
            registers = new int[8];
            account = 0;
        }

        int greatest() {
            int power = 1;
            for (int i = 0; i < width; i++) {
                power *= 2;
            }
            return power - 1;
        }

        static int truth(int n) {
            return (n / 2) * (n - n / 2);
        }

        static int ones(int number) {
            return Integer.toBinaryString(number).replace("0", "").length();
        }

        int wrongBits(int n) {
            return ones(stored[n] ^ truth(n));
        }

        boolean odd(int n) {
            return wrongBits(n) % 2 == 1;
        }

        void save() {
            Model copy = new Model();
            copy.take(this);
            saved.addLast(copy);
            if (saved.size() > 4) {
                saved.removeFirst();
            }
        }

        void take(Model other) {
            width = other.width;
            costs = other.costs.clone();
            stored = other.stored.clone();
            registers = other.registers.clone();
            account = other.account;
        }

        void argument(boolean good) {
            if (!good) {
                throw new Bad(IllegalArgumentException.class);
            }
        }

        void range(int number, int least, int greatest) {
            argument(least <= number && number <= greatest);
        }

        void index(int number, int size) {
            if (number < 0 || number >= size) {
                throw new Bad(IndexOutOfBoundsException.class);
            }
        }

        int value(int what) {
            int entries = 0;
            int found = 0;
            int bits = 0;
            for (int n = 0; n < stored.length; n++) {
                entries += wrongBits(n) > 0 ? 1 : 0;
                found += odd(n) ? 1 : 0;
                bits += wrongBits(n);
            }
            return new int[] {width, stored.length, costs[0], costs[1], costs[2], entries, found, bits}[what];
        }

        int product(int a, int b, int method) {
            if (method == 0) {
                return stored[a + b] - stored[Math.max(a, b) - Math.min(a, b)];
            }
            int sum = 0;
            for (int k = 0; k < 12; k++) {
                sum += sign(b, k, method) * (a << k);
            }
            return sum;
        }

        static int bit(int b, int k) {
            return k < 0 ? 0 : (b >> k) % 2;
        }

        /** 1 if the power k is added, -1 if it is subtracted, otherwise 0. */
        static int sign(int b, int k, int method) {
            return method == 1 ? bit(b, k) : bit(b, k - 1) - bit(b, k);
        }

        int cost(int b, int method) {
            if (method == 0) {
                return costs[0] + costs[0] + costs[1] + costs[1] + costs[1];
            }
            int cost = 0;
            int highest = 0;
            for (int k = 0; k < 12; k++) {
                if (sign(b, k, method) != 0) {
                    cost += costs[1];
                    highest = k;
                }
            }
            return cost + highest * costs[2];
        }

        boolean wrongPair(int a, int b) {
            return product(a, b, 0) != a * b;
        }

        int[] wrongReadings() {
            int[] readings = new int[stored.length + 1];
            for (int a = 0; a <= greatest(); a++) {
                for (int b = 0; b <= greatest(); b++) {
                    if (wrongPair(a, b)) {
                        readings[stored.length]++;
                        readings[a + b]++;
                        if (a + b != Math.abs(a - b)) {
                            readings[Math.abs(a - b)]++;
                        }
                    }
                }
            }
            return readings;
        }

        int firstWrong() {
            for (int a = 0; a <= greatest(); a++) {
                for (int b = 0; b <= greatest(); b++) {
                    if (wrongPair(a, b)) {
                        return 1000 * a + b;
                    }
                }
            }
            return -1;
        }

        int suspect() {
            int[] readings = wrongReadings();
            int best = -1;
            for (int n = 0; n < stored.length; n++) {
                if (readings[n] > 0 && (best < 0 || readings[n] > readings[best])) {
                    best = n;
                }
            }
            return best;
        }

        int cheapest(int a, int b) {
            int best = -1;
            for (int method = 0; method <= 2; method++) {
                if (product(a, b, method) == a * b && (best < 0 || cost(b, method) < cost(b, best))) {
                    best = method;
                }
            }
            return best;
        }

        int cheaperPairs(int method, int other) {
            int pairs = 0;
            for (int a = 0; a <= greatest(); a++) {
                for (int b = 0; b <= greatest(); b++) {
                    pairs += cost(b, method) < cost(b, other) ? 1 : 0;
                }
            }
            return pairs;
        }

        static int rounded(int p, int places, int way) {
            BigDecimal exact = new BigDecimal(p).divide(new BigDecimal(2).pow(places));
            if (way == 2) {
                return exact.setScale(0, RoundingMode.HALF_EVEN).intValueExact();
            }
            BigDecimal half = new BigDecimal(way == 1 ? "0.5" : "0");
            return exact.add(half).setScale(0, RoundingMode.FLOOR).intValueExact();
        }

        private static final Pattern TEXT = Pattern.compile("([a-h]=([0-9]{1,3}|[a-h][*x#+>-][a-h]);)*");
        private static final Pattern NUMBER = Pattern.compile("=([0-9]{1,3})(?![0-9])");
        private static final Pattern STATEMENT =
            Pattern.compile("([a-h])=(?:([0-9]+)|([a-h])([*x#+>-])([a-h]));");

        /** The syntax error position, or -1. */
        static int position(String text) {
            int grammar = text.length();
            for (int i = 1; i <= text.length() && grammar == text.length(); i++) {
                Matcher prefix = TEXT.matcher(text.substring(0, i));
                if (!prefix.matches() && !prefix.hitEnd()) {
                    grammar = i - 1;
                }
            }
            Matcher number = NUMBER.matcher(text);
            while (number.find()) {
                if (Integer.parseInt(number.group(1)) > 255 && number.end() <= grammar) {
                    return number.start(1);
                }
            }
            return TEXT.matcher(text).matches() ? -1 : grammar;
        }

        int run() {
            int position = position(text);
            if (position >= 0) {
                return -10 - position;
            }
            save();
            int total = 0;
            Matcher statement = STATEMENT.matcher(text);
            while (statement.find()) {
                int target = statement.group(1).charAt(0) - 'a';
                int result;
                if (statement.group(2) != null) {
                    result = Integer.parseInt(statement.group(2));
                } else {
                    int left = registers[statement.group(3).charAt(0) - 'a'];
                    int right = registers[statement.group(5).charAt(0) - 'a'];
                    String sign = statement.group(4);
                    int method = "*x#".indexOf(sign);
                    int steps = right > 31 ? 31 : right;
                    if (method >= 0) {
                        result = product(left, right, method);
                        total += cost(right, method);
                    } else if (sign.equals(">")) {
                        result = (int) (left / (1L << steps));
                        total += steps * costs[2];
                    } else {
                        result = sign.equals("+") ? left + right : left - right;
                        total += costs[1];
                    }
                }
                registers[target] = Math.floorMod(result, greatest() + 1);
            }
            account += total;
            return total;
        }

        long digest() {
            long h = 31 * 3833L + text.length();
            for (int what = 0; what < 8; what++) {
                h = 31 * h + value(what);
            }
            h = 31 * h + account;
            for (int register : registers) {
                h = 31 * h + register;
            }
            for (int entry : stored) {
                h = 31 * h + entry;
            }
            h = 31 * h + firstWrong();
            return 31 * h + saved.size();
        }
    }

    /** An answer as text, so that one that is thrown can be told like any other. */
    private static String answer(HalfTables x, int call, int[] p) {
        try {
            switch (call) {
                case 0: return "" + x.setWidth(p[0]);
                case 1: return "" + x.setCost(p[0], p[1]);
                case 2: return "" + x.flip(p[0], p[1]);
                case 3: return "" + x.repair(p[0]);
                case 4: return "" + x.repairByParity();
                case 5: return "" + x.setRegister(p[0], p[1]);
                case 6: return "" + x.clearAccount();
                case 7: return "" + x.multiply(p[0], p[1], p[2]);
                case 8: return "" + x.cost(p[0], p[1], p[2]);
                case 9: return "" + x.cheapest(p[0], p[1]);
                case 10: return "" + x.fraction(p[0], p[1], p[2], p[3], p[4]);
                case 11: return "" + (x.error(p[0], p[1], p[2], p[3]) + 0.0);
                case 12: return "" + x.entry(p[0], p[1]);
                case 13: return "" + x.register(p[0]);
                case 14: return "" + x.value(p[0]);
                case 15: return "" + x.account();
                case 16: return "" + x.wrongPairs();
                case 17: return "" + x.wrongPairsWith(p[0]);
                case 18: return "" + x.firstWrong();
                case 19: return "" + x.suspect();
                case 20: return "" + x.cheaperPairs(p[0], p[1]);
                case 21: return "" + x.append(p[0]);
                case 22: return "" + x.clearText();
                case 23: return "" + x.run();
                case 24: return "" + x.undo();
                default: return "" + x.digest();
            }
        } catch (RuntimeException e) {
            return e.getClass().toString();
        }
    }

    private static String answer(Model x, int call, int[] p) {
        try {
            return call <= 6 || call >= 21 ? changed(x, call, p) : asked(x, call, p);
        } catch (Bad e) {
            return e.kind.toString();
        }
    }

    private static String changed(Model x, int call, int[] p) {
        int answer;
        long longAnswer;
        switch (call) {
            case 0:
                x.range(p[0], 3, 8);
                x.save();
                answer = x.value(5);
                x.fresh(p[0]);
                return "" + answer;
            case 1:
                x.range(p[0], 0, 2);
                x.range(p[1], 1, 50);
                x.save();
                answer = x.costs[p[0]];
                x.costs[p[0]] = p[1];
                return "" + answer;
            case 2:
                x.index(p[0], x.stored.length);
                x.range(p[1], 0, 16);
                x.save();
                x.stored[p[0]] ^= 1 << p[1];
                return "" + x.stored[p[0]];
            case 3:
                x.index(p[0], x.stored.length);
                x.save();
                answer = x.wrongBits(p[0]);
                x.stored[p[0]] = Model.truth(p[0]);
                return "" + answer;
            case 4:
                x.save();
                answer = x.value(6);
                for (int n = 0; n < x.stored.length; n++) {
                    x.stored[n] = x.odd(n) ? Model.truth(n) : x.stored[n];
                }
                return "" + answer;
            case 5:
                x.index(p[0], 8);
                x.range(p[1], 0, x.greatest());
                x.save();
                answer = x.registers[p[0]];
                x.registers[p[0]] = p[1];
                return "" + answer;
            case 6:
                x.save();
                longAnswer = x.account;
                x.account = 0;
                return "" + longAnswer;
            case 21:
                x.range(p[0], 0, 127);
                if (x.text.length() == 100) {
                    throw new Bad(IllegalStateException.class);
                }
                x.text += (char) p[0];
                return "" + x.text.length();
            case 22:
                answer = x.text.length();
                x.text = "";
                return "" + answer;
            case 23:
                return "" + x.run();
            case 24:
                if (x.saved.isEmpty()) {
                    throw new Bad(IllegalStateException.class);
                }
                x.take(x.saved.removeLast());
                return "" + x.saved.size();
            default:
                return "" + x.digest();
        }
    }

    private static String asked(Model x, int call, int[] p) {
        if (call >= 7 && call <= 11) {
            x.range(p[0], 0, x.greatest());
            x.range(p[1], 0, x.greatest());
        }
        switch (call) {
            case 7:
                x.range(p[2], 0, 2);
                return "" + x.product(p[0], p[1], p[2]);
            case 8:
                x.range(p[2], 0, 2);
                return "" + x.cost(p[1], p[2]);
            case 9:
                return "" + x.cheapest(p[0], p[1]);
            case 10:
                x.range(p[2], 0, 2);
                x.range(p[3], 0, 16);
                x.range(p[4], 0, 2);
                return "" + Model.rounded(x.product(p[0], p[1], p[2]), p[3], p[4]);
            case 11:
                x.range(p[2], 0, 16);
                x.range(p[3], 0, 2);
                int product = x.product(p[0], p[1], 1);
                return "" + (Model.rounded(product, p[2], p[3]) - product / Math.pow(2, p[2]) + 0.0);
            case 12:
                x.index(p[0], x.stored.length);
                x.range(p[1], 0, 4);
                int truth = Model.truth(p[0]);
                int[] about = {x.stored[p[0]], truth, Model.ones(truth) % 2, x.odd(p[0]) ? 0 : 1, x.wrongBits(p[0])};
                return "" + about[p[1]];
            case 13:
                x.index(p[0], 8);
                return "" + x.registers[p[0]];
            case 14:
                x.range(p[0], 0, 7);
                return "" + x.value(p[0]);
            case 15:
                return "" + x.account;
            case 16:
                return "" + x.wrongReadings()[x.stored.length];
            case 17:
                x.index(p[0], x.stored.length);
                return "" + x.wrongReadings()[p[0]];
            case 18:
                return "" + x.firstWrong();
            case 19:
                return "" + x.suspect();
            default:
                x.range(p[0], 0, 2);
                x.range(p[1], 0, 2);
                return "" + x.cheaperPairs(p[0], p[1]);
        }
    }

    private static final String[] NAMES = {
        "setWidth", "setCost", "flip", "repair", "repairByParity", "setRegister", "clearAccount", "multiply", "cost",
        "cheapest", "fraction", "error", "entry", "register", "value", "account", "wrongPairs", "wrongPairsWith",
        "firstWrong", "suspect", "cheaperPairs", "append", "clearText", "run", "undo", "digest",
    };

    /** A number of 0 to the greatest, seldom one that is out of this range. */
    private static int near(Random random, int greatest) {
        int choice = random.nextInt(40);
        if (choice == 0) {
            return -1 - random.nextInt(2);
        }
        if (choice == 1) {
            return greatest + 1 + random.nextInt(2);
        }
        if (choice == 2) {
            return random.nextInt(16) == 0 ? random.nextInt() : greatest;
        }
        return choice == 3 ? 0 : random.nextInt(greatest + 1);
    }

    private static int[] arguments(Random random, Model model, int call) {
        int operand = model.greatest();
        int entry = random.nextBoolean() ? model.stored.length - 1 : 12;
        int[][] greatest = {
            {8}, {2, 50}, {entry, 16}, {entry}, {}, {7, operand}, {}, {operand, operand, 2}, {operand, operand, 2},
            {operand, operand}, {operand, operand, 2, 16, 2}, {operand, operand, 16, 2}, {entry, 4}, {7}, {7}, {}, {},
            {entry}, {}, {}, {2, 2}, {127}, {}, {}, {}, {},
        };
        int[] arguments = new int[5];
        for (int i = 0; i < greatest[call].length; i++) {
            arguments[i] = near(random, greatest[call][i]);
        }
        return arguments;
    }

    private static char any(Random random, String of) {
        return of.charAt(random.nextInt(of.length()));
    }

    private static String statement(Random random) {
        StringBuilder text = new StringBuilder().append(any(random, "abcdefgh")).append('=');
        if (random.nextInt(3) == 0) {
            String number = "" + random.nextInt(random.nextInt(20) == 0 ? 1200 : 256);
            text.append(random.nextInt(4) == 0 ? "0" : "").append(number);
        } else {
            text.append(any(random, "abcdefgh")).append(any(random, "*x#+->")).append(any(random, "abcdefgh"));
        }
        return text.append(';').toString();
    }

    private static String text(Random random) {
        StringBuilder text = new StringBuilder();
        for (int i = random.nextInt(5); i > 0; i--) {
            text.append(statement(random));
        }
        int hurt = random.nextInt(6);
        if (hurt < 3 && text.length() > 0) {
            int at = random.nextInt(text.length());
            if (hurt == 0) {
                text.setLength(at);
            } else if (hurt == 1) {
                text.setCharAt(at, any(random, "abhi`A=;;0129/:*x#+-> \0\177"));
            } else {
                text.insert(at, any(random, "abhi=;0123459999*x#+->"));
            }
        }
        return text.toString();
    }

    private static int wrong = 0;

    private static void compare(HalfTables x, Model model, int call, int[] arguments, int run, int number) {
        String got = answer(x, call, arguments);
        String want = answer(model, call, arguments);
        if (!got.equals(want)) {
            wrong++;
            if (wrong <= 20) {
                StringBuilder told = new StringBuilder();
                for (int argument : arguments) {
                    told.append(' ').append(argument);
                }
                System.out.println("run " + run + ", call " + number + ": " + NAMES[call] + told + " answered " + got
                    + ", due is " + want + ", width " + model.width + ", text " + model.text);
            }
        }
    }

    private static void run(int run) {
        Random random = new Random(run);
        HalfTables x = new HalfTables();
        Model model = new Model();
        int number = 0;
        // Most runs start at a small width: at the full one the model is slow.
        if (run % 8 != 0) {
            number++;
            compare(x, model, 0, new int[] {3 + random.nextInt(4), 0, 0, 0, 0}, run, number);
        }
        while (number < LAST) {
            int call = random.nextInt(27);
            if (call == 0 && random.nextInt(8) != 0) {
                call = 2;
            }
            if (call == 24 && random.nextInt(3) != 0) {
                call = 25;
            }
            if (call == 26) {
                number++;
                compare(x, model, 22, new int[5], run, number);
                String text = text(random);
                for (int i = 0; i < text.length() && number < LAST; i++) {
                    number++;
                    compare(x, model, 21, new int[] {text.charAt(i), 0, 0, 0, 0}, run, number);
                }
                call = 23;
            }
            if (number < LAST) {
                number++;
                compare(x, model, call, arguments(random, model, call), run, number);
            }
        }
        compare(x, model, 25, new int[5], run, number + 1);
    }

    public static void main(String[] args) {
        for (int run = 0; run < RUNS; run++) {
            run(run);
        }
        System.out.println(wrong == 0 ? RUNS + " runs are as in the model" : wrong + " answers are not as the model's");
        if (wrong != 0) {
            System.exit(1);
        }
    }
}
