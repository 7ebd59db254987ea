/** What the tests share: telling a text, asking for an answer, counting what is wrong. */
final class Kit {
    static final String STREET = "man a 100 0;man b 50 4;man c 20 9;thought a 40 0 0;thought a 60 1 1;"
        + "thought b 30 2 0;thought c 99 5 2;reader r 9 3;reader s 5 15;rate 50;dull 4;seed 0;";

    static final int LEAST = Integer.MIN_VALUE;
    static final int MOST = Integer.MAX_VALUE;

    /** One call of the face, a boolean counting 1 or 0. */
    interface Call {
        long of(ThoughtTax x);
    }

    /** Makes an object, each time one in the same state. */
    interface Maker {
        ThoughtTax make();
    }

    private final String name;
    private int asked;
    private int wrong;

    Kit(String name) {
        this.name = name;
    }

    static int tell(ThoughtTax x, String text) {
        for (int i = 0; i < text.length(); i += 20) {
            int[] n = new int[5];
            for (int k = 0; k < 20; k++) {
                n[k / 4] = n[k / 4] << 8 | (i + k < text.length() ? text.charAt(i + k) & 255 : ' ');
            }
            x.feed(n[0], n[1], n[2], n[3], n[4]);
        }
        return x.text(text.length());
    }

    static ThoughtTax told(String text) {
        ThoughtTax x = new ThoughtTax();
        tell(x, text);
        return x;
    }

    /** A law's E, worked out for the one thought of a street, as law() answers. */
    static long worked(String expression) {
        ThoughtTax x = told("man a 30 2;reader r 4 15;thought a 50 0 1;law read " + expression + ";");
        x.weeks(1);
        return x.law(0, 0);
    }

    /** Something of all that can stay: a tape, a fault, weeks, what is owed, an image, what was found, known and done. */
    static ThoughtTax busy() {
        ThoughtTax x = told(STREET + "law hide 11;law due worth*2;");
        tell(x, "rate 101;");
        x.weeks(5);
        x.keep();
        x.rate(60);
        x.weeks(2);
        x.find(4, 0, true);
        x.find(4, 2, true);
        x.strike(1);
        x.known(2);
        x.hide(0, 1);
        x.buy(2, 2);
        x.round(2, 1);
        x.rate(61);
        x.feed(0x72617465, 0x2037373b, 0x20202020, 0x20202020, 0x20202020);
        return x;
    }

    /** The next number that is drawn; the row's first element is the last one. */
    static int draw(long[] last) {
        last[0] = last[0] * 1103515245L + 12345L & 0x7fffffffL;
        return (int) (last[0] / 65536);
    }

    private static void see(ThoughtTax x, StringBuilder b) {
        for (int what = 0; what <= 12; what++) {
            b.append(x.count(what)).append(' ');
        }
        for (int man = 0; man < x.count(0); man++) {
            for (int what = 0; what < 6; what++) {
                b.append(x.man(man, what)).append(' ');
            }
        }
        for (int thought = 0; thought < x.count(1); thought++) {
            for (int what = 0; what < 7; what++) {
                b.append(x.thought(thought, what)).append(' ');
            }
        }
        for (int reader = 0; reader < x.count(2); reader++) {
            b.append(x.reader(reader, 0)).append(' ').append(x.reader(reader, 1)).append(' ');
        }
        b.append('\n');
    }

    /** All but the tape and the fault; the object is used up by it. */
    static String street(ThoughtTax x) {
        StringBuilder b = new StringBuilder();
        see(x, b);
        for (int reader = 0; reader < x.count(2); reader++) {
            b.append("skills ").append(x.skills(reader)).append('\n');
        }
        for (int left = x.undo(); left >= 0; left = x.undo()) {
            b.append("undone, left ").append(left).append('\n');
        }
        see(x, b);
        b.append("weeks ").append(x.weeks(8)).append('\n');
        see(x, b);
        b.append("back ").append(x.back()).append('\n');
        see(x, b);
        return b.toString();
    }

    /** All that an object can tell of its state; it is used up by it. */
    static String all(ThoughtTax x) {
        StringBuilder b = new StringBuilder();
        b.append("fault ").append(x.fault(0)).append(" at ").append(x.fault(1)).append('\n');
        b.append(street(x));
        int length = x.feed(0x20202020, 0x20202020, 0x20202020, 0x20202020, 0x20202020);
        b.append("tape ").append(length).append(" tells ").append(x.text(length)).append('\n');
        see(x, b);
        return b.toString();
    }

    void due(String what, String got, String want) {
        asked++;
        if (!got.equals(want)) {
            wrong++;
            System.out.println(name + ": " + what + " answered\n" + got + "due is\n" + want);
        }
    }

    /** The call answers so, and all is as without it. */
    void stays(String what, Maker maker, Call call, long want) {
        ThoughtTax x = maker.make();
        due(what, call.of(x), want);
        due(what + ": what stays", all(x), all(maker.make()));
    }

    void stays(String what, Call call, long want) {
        stays(what, Kit::busy, call, want);
    }

    /** What is asked changes nothing, whatever it answers. */
    void asks(String what, Call call) {
        stays(what, call, call.of(busy()));
    }

    void due(String what, long got, long want) {
        asked++;
        if (got != want) {
            wrong++;
            System.out.println(name + ": " + what + " answered " + got + ", due is " + want);
        }
    }

    void due(String what, boolean got, boolean want) {
        due(what, got ? 1 : 0, want ? 1 : 0);
    }

    /** The text has this fault at this place, and nothing else changes. */
    void faulty(String text, int fault, int place) {
        ThoughtTax x = told("man z 7 1;");
        due("text of " + text, tell(x, text), ThoughtTax.NONE);
        due("fault(0) of " + text, x.fault(0), fault);
        due("fault(1) of " + text, x.fault(1), place);
        due("what stays behind " + text, x.man(0, 0), 7);
    }

    void fine(String text, int lines) {
        ThoughtTax x = new ThoughtTax();
        due("text of " + text, tell(x, text), lines);
        due("fault(0) of " + text, x.fault(0), 0);
        due("fault(1) of " + text, x.fault(1), ThoughtTax.NONE);
    }

    void end() {
        System.out.println(name + ": " + asked + " answers, " + wrong + " not as due");
        if (wrong != 0) {
            System.exit(1);
        }
    }
}
