import java.util.NoSuchElementException;
import java.util.Random;

/**
 * Asks the class and the Model the same things, call by call, on texts and calls drawn from fixed seeds.
 * A number as argument makes it so many times as long.
 */
public final class ModelTest {
    private static final int RUNS = 1500;
    private static final int TEXTS = 20000;
    private static final int CALLS = 43;
    private static final String[] PIECES = {"man", "thought", "reader", "rate", "dull", "seed", "law", "read", "due",
        "hide", "or", "and", "not", "worth", "skill", "purse", "wiles", "dulled", "there", "week", "(", ")", "<", "<=",
        "=", "<>", ">=", ">", "+", "-", "*", "/", ";", "a", "b", "zzzzzz", "sevenaa", "0", "1", "9", "10", "99", "100",
        "999", "1000", "9999", "10000", "00007", "99999", "100000", "99999999999999999999", "\n", " ", "A", "!", "&"};

    private final Random random;
    private int people;
    private int thoughts;
    private int readers;

    private ModelTest(long seed) {
        random = new Random(seed);
    }

    public static void main(String[] args) {
        int times = args.length > 0 ? Integer.parseInt(args[0]) : 1;
        int wrong = 0;
        for (int run = 0; run < RUNS * times && wrong < 10; run++) {
            wrong += new ModelTest(run).run(run);
        }
        for (int run = 0; run < TEXTS * times && wrong < 10; run++) {
            wrong += new ModelTest(-1 - run).oneText(run);
        }
        System.out.println(wrong == 0 ? "ModelTest: all answers are as due" : "ModelTest: " + wrong + " runs are wrong");
        if (wrong != 0) {
            System.exit(1);
        }
    }

    private int upTo(int most) {
        return random.nextInt(most + 1);
    }

    /** Mostly of those that are allowed, now and then just beside them. */
    private int around(int least, int most) {
        int kind = random.nextInt(40);
        return kind == 0 ? least - 1 : kind == 1 ? most + 1 : kind == 2 ? random.nextInt() : least + upTo(Math.max(0, most - least));
    }

    private String expression(int depth) {
        StringBuilder b = new StringBuilder();
        String[] signs = {"+", "-", "*", "/", "<", "<=", "=", "<>", ">=", ">", "and", "or"};
        String[] names = {"worth", "skill", "purse", "wiles", "dulled", "there", "week"};
        int kind = random.nextInt(10);
        if (depth == 0 || kind < 3) {
            return random.nextBoolean() ? names[random.nextInt(7)] : String.valueOf(random.nextInt(4) == 0 ? upTo(9999) : upTo(60));
        }
        if (kind == 3) {
            return b.append("(not ").append(expression(depth - 1)).append(")").toString();
        }
        String sign = signs[random.nextInt(random.nextInt(3) == 0 ? 12 : 3)];
        b.append(expression(depth - 1)).append(" ").append(sign).append(" ").append(expression(depth - 1));
        return random.nextInt(3) == 0 ? "(" + b + ")" : b.toString();
    }

    private String text() {
        StringBuilder b = new StringBuilder();
        int men = random.nextInt(12) == 0 ? 0 : 1 + upTo(5);
        for (int i = 0; i < men; i++) {
            b.append("man ").append((char) ('a' + i)).append(" ").append(upTo(random.nextBoolean() ? 60 : 999)).append(" ").append(upTo(9)).append(";");
        }
        int heads = random.nextInt(12) == 0 ? 0 : 1 + upTo(3);
        for (int i = 0; i < heads; i++) {
            b.append("reader ").append((char) ('r' + i)).append(" ").append(upTo(9)).append(" ").append(random.nextInt(3) == 0 ? upTo(15) : 15).append(";");
        }
        int ideas = men == 0 ? 0 : upTo(12);
        for (int i = 0; i < ideas; i++) {
            b.append("thought ").append((char) ('a' + upTo(men - 1))).append(" ").append(1 + upTo(98)).append(" ")
                .append(upTo(random.nextInt(4) == 0 ? 99 : 15)).append(" ").append(upTo(3)).append(";");
        }
        if (random.nextBoolean()) {
            b.append("rate ").append(upTo(100)).append(";");
        }
        if (random.nextBoolean()) {
            b.append("dull ").append(1 + upTo(random.nextBoolean() ? 5 : 98)).append(";");
        }
        if (random.nextBoolean()) {
            b.append("seed ").append(upTo(99999)).append(";");
        }
        for (String law : new String[] {"read", "due", "hide"}) {
            if (random.nextInt(5) < 2) {
                String start = law.equals("read") ? (random.nextBoolean() ? "skill * 10 + " : "50 + ") : law.equals("hide") ? "5 + " : "";
                b.append("law ").append(law).append(" ").append(start).append(expression(3)).append(";");
            }
        }
        return b.toString();
    }

    private String broken(String text) {
        StringBuilder b = new StringBuilder(text);
        for (int i = upTo(2); i >= 0; i--) {
            String piece = PIECES[random.nextInt(PIECES.length)];
            int at = upTo(b.length());
            int to = Math.min(b.length(), at + upTo(8));
            b.replace(at, random.nextBoolean() ? to : at, random.nextBoolean() ? piece : " " + piece + " ");
        }
        return b.toString();
    }

    private String tell(ThoughtTax x, Model m, String text) {
        for (int i = 0; i < text.length(); i += 20) {
            int[] n = new int[5];
            for (int k = 0; k < 20; k++) {
                n[k / 4] = n[k / 4] << 8 | (i + k < text.length() ? text.charAt(i + k) : ' ');
            }
            int got = x.feed(n[0], n[1], n[2], n[3], n[4]);
            int want = m.feed(n[0], n[1], n[2], n[3], n[4]);
            if (got != want) {
                return "feed answered " + got + ", due is " + want;
            }
        }
        int n = random.nextInt(50) == 0 ? text.length() + 20 : text.length();
        int got = x.text(n);
        int want = m.text(n);
        if (got != want || x.fault(0) != m.fault(0) || x.fault(1) != m.fault(1)) {
            return "text(" + n + ") answered " + got + " with fault " + x.fault(0) + " at " + x.fault(1) + ", due is " + want
                + " with fault " + m.fault(0) + " at " + m.fault(1) + " of: " + text;
        }
        people = m.count(0);
        thoughts = m.count(1);
        readers = m.count(2);
        return null;
    }

    private int oneText(int run) {
        ThoughtTax x = new ThoughtTax();
        Model m = new Model();
        String text = text();
        String wrong = tell(x, m, random.nextInt(4) == 0 ? pieces() : broken(text));
        for (int what = 0; wrong == null && what <= 13; what++) {
            wrong = x.count(what) == m.count(what) ? null : "count(" + what + ")";
        }
        if (wrong != null) {
            System.out.println("text " + run + ": " + wrong);
        }
        return wrong == null ? 0 : 1;
    }

    private String pieces() {
        StringBuilder b = new StringBuilder(random.nextBoolean() ? "law due " : "man a 5 5;law read ");
        int many = upTo(80);
        boolean wantsOperand = true;
        for (int i = 0; i < many && b.length() < 650; i++) {
            int from = random.nextInt(30) == 0 ? upTo(PIECES.length - 1) : wantsOperand ? (random.nextInt(4) == 0 ? 20 : random.nextInt(6) == 0 ? 12 : 13 + upTo(6))
                : random.nextInt(4) == 0 ? 21 : random.nextInt(4) == 0 ? 10 + upTo(1) : 22 + upTo(9);
            b.append(PIECES[from]).append(random.nextInt(4) == 0 ? "" : " ");
            wantsOperand = wantsOperand ? from == 20 || from == 12 : from != 21;
        }
        return b.append(random.nextBoolean() ? ";" : "").toString();
    }

    private int run(int run) {
        ThoughtTax x = new ThoughtTax();
        Model m = new Model();
        StringBuilder told = new StringBuilder();
        for (int i = 0; i < 120; i++) {
            String wrong;
            if (i == 0 || random.nextInt(60) == 0) {
                String text = random.nextInt(6) == 0 ? broken(text()) : text();
                wrong = tell(x, m, text);
                told.append(text).append("\n");
            } else {
                wrong = call(x, m, told);
            }
            if (wrong != null) {
                System.out.println("run " + run + ": " + wrong + " behind\n" + told);
                return 1;
            }
        }
        return 0;
    }

    private String call(ThoughtTax x, Model m, StringBuilder told) {
        int which = random.nextInt(CALLS);
        int[] a = new int[4];
        arguments(which, a);
        String call = which + "(" + a[0] + ", " + a[1] + ", " + a[2] + ")";
        told.append(call).append(" ");
        long got = answer(x, null, which, a);
        long want = answer(null, m, which, a);
        return got == want ? null : "call " + call + " answered " + got + ", due is " + want;
    }

    private void arguments(int which, int[] a) {
        int man = around(0, people - 1);
        int thought = around(0, thoughts - 1);
        int reader = around(0, readers - 1);
        switch (which) {
            case 1 -> set(a, random.nextInt(4) == 0 ? around(-2, 700) : 701, 0, 0);
            case 2 -> set(a, around(0, 1), 0, 0);
            case 20 -> set(a, around(0, 12), 0, 0);
            case 3 -> set(a, around(0, 1), Model.letters(String.valueOf((char) ('a' + upTo(25)))), 0);
            case 4 -> set(a, thought, around(0, 6), 0);
            case 5 -> set(a, man, around(0, 5), 0);
            case 6 -> set(a, reader, around(0, 1), 0);
            case 7 -> set(a, around(0, 2), random.nextBoolean() ? thought : man, 0);
            case 8 -> set(a, thought, man, 0);
            case 9 -> set(a, man, around(1, random.nextBoolean() ? 9 : 3), 0);
            case 10 -> set(a, man, reader, 0);
            case 11 -> set(a, around(0, 100), 0, 0);
            case 12 -> set(a, around(0, random.nextInt(4) == 0 ? 99 : 4), 0, 0);
            case 13 -> set(a, around(0, 99), around(0, 3), 0);
            case 15 -> set(a, around(0, 4), 0, 0);
            case 16 -> set(a, thought, around(0, 1), 0);
            case 17 -> set(a, around(1, 40), around(0, 1), 0);
            case 19 -> set(a, thought, around(0, thoughts - 1), around(0, 1));
            case 21 -> set(a, around(0, (1 << readers) - 1), 0, 0);
            case 23 -> set(a, around(0, 2), 0, 0);
            case 25 -> set(a, around(1, 99), 0, 0);
            case 26, 32 -> set(a, man, 0, 0);
            case 27 -> set(a, around(1, 40), around(0, 100), around(0, 1));
            case 28 -> set(a, around(1, 99), around(0, 3), 0);
            case 31 -> set(a, around(0, 99), 0, 0);
            case 34 -> set(a, around(1, 40), thought, upTo(1));
            case 35 -> set(a, around(0, 5), 0, 0);
            case 36 -> set(a, around(-1, 6), 0, 0);
            case 37 -> set(a, reader, 0, 0);
            case 38 -> set(a, random.nextInt(9) == 0 ? -1 : upTo(Integer.MAX_VALUE - 1), around(1, 99), around(0, random.nextBoolean() ? 999 : 60));
            case 39 -> set(a, around(0, 4), random.nextInt(3) == 0 ? man : 0, around(0, 99));
            default -> set(a, thought, 0, 0);
        }
        if (which == 36 && random.nextBoolean()) {
            a[0] = -1;
        }
    }

    private static void set(int[] a, int one, int two, int three) {
        a[0] = one;
        a[1] = two;
        a[2] = three;
    }

    private static long bool(boolean b) {
        return b ? 1 : 0;
    }

    private static long answer(ThoughtTax x, Model m, int which, int[] a) {
        boolean c = x != null;
        try {
            switch (which) {
                case 0: return c ? x.feed(a[0], a[1], a[2], 0x206d616e, -1) : m.feed(a[0], a[1], a[2], 0x206d616e, -1);
                case 1: return c ? x.text(a[0]) : m.text(a[0]);
                case 2: return c ? x.fault(a[0]) : m.fault(a[0]);
                case 3: return c ? x.named(a[0], a[1]) : m.named(a[0], a[1]);
                case 4: return c ? x.thought(a[0], a[1]) : m.thought(a[0], a[1]);
                case 5: return c ? x.man(a[0], a[1]) : m.man(a[0], a[1]);
                case 6: return c ? x.reader(a[0], a[1]) : m.reader(a[0], a[1]);
                case 7: return c ? x.law(a[0], a[1]) : m.law(a[0], a[1]);
                case 8: return bool(c ? x.hide(a[0], a[1]) : m.hide(a[0], a[1]));
                case 9: return c ? x.buy(a[0], a[1]) : m.buy(a[0], a[1]);
                case 10: return bool(c ? x.round(a[0], a[1]) : m.round(a[0], a[1]));
                case 11: return bool(c ? x.rate(a[0]) : m.rate(a[0]));
                case 12: return c ? x.weeks(a[0]) : m.weeks(a[0]);
                case 13: return c ? x.ahead(a[0], a[1]) : m.ahead(a[0], a[1]);
                case 14: return c ? x.likely(a[0]) : m.likely(a[0]);
                case 15: return c ? x.bestRound(a[0]) : m.bestRound(a[0]);
                case 16: return c ? x.hideIn(a[0], a[1]) : m.hideIn(a[0], a[1]);
                case 17: return c ? x.bestRate(a[0], a[1]) : m.bestRate(a[0], a[1]);
                case 18: return c ? x.worthless() : m.worthless();
                case 19: return c ? x.share(a[0], a[1], a[2]) : m.share(a[0], a[1], a[2]);
                case 20: return c ? x.count(a[0]) : m.count(a[0]);
                case 21: return c ? x.chain(a[0]) : m.chain(a[0]);
                case 22: return c ? x.rests() : m.rests();
                case 23: return c ? x.rest(a[0]) : m.rest(a[0]);
                default: return laterAnswer(x, m, which, a);
            }
        } catch (IndexOutOfBoundsException e) {
            return e.getClass() == IndexOutOfBoundsException.class ? -1000001 : -1000003;
        } catch (NoSuchElementException e) {
            return -1000002;
        }
    }

    private static long laterAnswer(ThoughtTax x, Model m, int which, int[] a) {
        boolean c = x != null;
        switch (which) {
            case 24: return c ? x.first() : m.first();
            case 25: return c ? x.farthing(a[0]) : m.farthing(a[0]);
            case 26: return c ? x.enough(a[0]) : m.enough(a[0]);
            case 27: return c ? x.vote(a[0], a[1], a[2]) : m.vote(a[0], a[1], a[2]);
            case 28: return c ? x.whose(a[0], a[1]) : m.whose(a[0], a[1]);
            case 29: return c ? x.debtor() : m.debtor();
            case 30: return c ? x.nextRead(a[0]) : m.nextRead(a[0]);
            case 31: return c ? x.richest(a[0]) : m.richest(a[0]);
            case 32: return c ? x.holds(a[0]) : m.holds(a[0]);
            case 33: return c ? x.hidden() : m.hidden();
            case 34: return c ? x.find(a[0], a[1], a[2] == 1) : m.find(a[0], a[1], a[2] == 1);
            case 35: return c ? x.strike(a[0]) : m.strike(a[0]);
            case 36: return bool(c ? x.known(a[0]) : m.known(a[0]));
            case 37: return c ? x.skills(a[0]) : m.skills(a[0]);
            case 38: return c ? x.chance(a[0], a[1], a[2]) : m.chance(a[0], a[1], a[2]);
            case 39: return c ? x.tried(a[0], a[1], a[2]) : m.tried(a[0], a[1], a[2]);
            case 40: return c ? x.undo() : m.undo();
            case 41: return c ? x.keep() : m.keep();
            default: return c ? x.back() : m.back();
        }
    }
}
