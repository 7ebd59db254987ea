/** What the tests share: telling a text, asking for an answer, counting what is wrong. */
final class Kit {
    static final String STREET = "man a 100 0;man b 50 4;man c 20 9;thought a 40 0 0;thought a 60 1 1;"
        + "thought b 30 2 0;thought c 99 5 2;reader r 9 3;reader s 5 15;rate 50;dull 4;seed 0;";

    private final String name;
    private int asked;
    private int wrong;

    Kit(String name) {
        this.name = name;
    }

    static int tell(ThoughtTax x, String text) {
        for (int i = 0; i < text.length(); i += 20) {
            int[] n = new int[5];
            for (int k = 0; k < 20; k++) {
                n[k / 4] = n[k / 4] << 8 | (i + k < text.length() ? text.charAt(i + k) & 255 : ' ');
            }
            x.feed(n[0], n[1], n[2], n[3], n[4]);
        }
        return x.text(text.length());
    }

    static ThoughtTax told(String text) {
        ThoughtTax x = new ThoughtTax();
        tell(x, text);
        return x;
    }

    /** A law's E, worked out for the one thought of a street, as law() answers. */
    static long worked(String expression) {
        ThoughtTax x = told("man a 30 2;reader r 4 15;thought a 50 0 1;law read " + expression + ";");
        x.weeks(1);
        return x.law(0, 0);
    }

    void due(String what, long got, long want) {
        asked++;
        if (got != want) {
            wrong++;
            System.out.println(name + ": " + what + " answered " + got + ", due is " + want);
        }
    }

    void due(String what, boolean got, boolean want) {
        due(what, got ? 1 : 0, want ? 1 : 0);
    }

    /** The text has this fault at this place, and nothing else changes. */
    void faulty(String text, int fault, int place) {
        ThoughtTax x = told("man z 7 1;");
        due("text of " + text, tell(x, text), ThoughtTax.NONE);
        due("fault(0) of " + text, x.fault(0), fault);
        due("fault(1) of " + text, x.fault(1), place);
        due("what stays behind " + text, x.man(0, 0), 7);
    }

    void fine(String text, int lines) {
        ThoughtTax x = new ThoughtTax();
        due("text of " + text, tell(x, text), lines);
        due("fault(0) of " + text, x.fault(0), 0);
        due("fault(1) of " + text, x.fault(1), ThoughtTax.NONE);
    }

    void end() {
        System.out.println(name + ": " + asked + " answers, " + wrong + " not as due");
        if (wrong != 0) {
            System.exit(1);
        }
    }
}
