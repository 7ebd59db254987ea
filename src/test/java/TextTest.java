/** Promises 1 to 5: a new object, the tape, the text, its faults, names. */
public final class TextTest {
    private static final Kit KIT = new Kit("TextTest");

    public static void main(String[] args) {
        newObject();
        feeding();
        telling();
        whatATextResets();
        tokens();
        tooMuch();
        toldAlready();
        lawsAsTexts();
        knots();
        naming();
        KIT.end();
    }

    private static void newObject() {
        ThoughtTax x = new ThoughtTax();
        int[] due = {0, 0, 0, 0, 0, 20, 0, 0, 0, 0, 0, 0, 0};
        for (int what = 0; what < due.length; what++) {
            KIT.due("a new object's count(" + what + ")", x.count(what), due[what]);
        }
        KIT.due("a new object's fault(0)", x.fault(0), 0);
        KIT.due("a new object's fault(1)", x.fault(1), -1);
        KIT.due("a new object's tape", x.text(1), -2);
        KIT.due("a new object's back()", x.back(), -1);
    }

    private static void feeding() {
        ThoughtTax x = new ThoughtTax();
        for (int i = 1; i <= 35; i++) {
            KIT.due("feed " + i, x.feed(0x20202020, 0x20202020, 0x20202020, 0x20202020, 0x20202020), 20 * i);
        }
        KIT.due("feed beyond 700", x.feed(0, 0, 0, 0, 0), -1);
        KIT.due("text beyond the tape", x.text(701), -2);
        KIT.due("text of 700 blanks", x.text(700), 0);
        KIT.due("feed behind a text", x.feed(0x72617465, 0x20373b20, 0, 0, 0), 20);
        KIT.due("the highest byte first", x.text(7), 1);
        KIT.due("rate as told", x.count(5), 7);
        KIT.due("what was behind is gone", x.text(1), -2);
    }

    private static void telling() {
        ThoughtTax x = new ThoughtTax();
        x.feed(0x72617465, 0x20373b20, 0x20202020, 0x20202020, 0x20202020);
        KIT.due("text(-1)", x.text(-1), -2);
        KIT.due("text(21)", x.text(21), -2);
        KIT.due("text(Integer.MIN_VALUE)", x.text(Integer.MIN_VALUE), -2);
        KIT.due("the tape stayed", x.text(20), 1);
        KIT.due("text(0)", x.text(0), 0);
        KIT.due("text(0) tells nothing", x.count(5), 20);
        x.feed(0x72617465, 0x20373b20, 0, 0, 0);
        KIT.due("a text that ends in a line", x.text(6), -1);
        KIT.due("its fault", x.fault(0), 1);
        KIT.due("its place", x.fault(1), 6);
        KIT.due("-2 leaves the fault", x.text(1), -2);
        KIT.due("the fault is left", x.fault(0), 1);
        KIT.due("fault(2)", x.fault(2), -1);
        KIT.due("fault(-1)", x.fault(-1), -1);
        KIT.fine("", 0);
        KIT.fine(Kit.STREET, 12);
        KIT.fine("\n rate\n7 ;\n\n", 1);
        KIT.fine("man a1 1;man b1\n1;", 2);
        KIT.fine("reader a 0 0;man a 0 0;man zzzzzz 999 9;reader b 9 15;", 4);
        KIT.fine("man a 0 0;thought a 1 0 0;thought a 99 99 3;", 3);
        KIT.fine("rate 0;dull 1;seed 0;", 3);
        KIT.fine("rate 100;dull 99;seed 99999;", 3);
        KIT.fine("rate 0000000000000000000000000000050;", 1);
    }

    private static void whatATextResets() {
        ThoughtTax x = Kit.told(Kit.STREET);
        x.weeks(5);
        x.keep();
        x.find(4, 0, true);
        x.known(0);
        x.rate(7);
        Kit.tell(x, "rate 101;");
        KIT.due("a fault leaves the week", x.count(4), 5);
        KIT.due("a fault leaves what was found", x.count(10), 1);
        KIT.due("a fault leaves what can be undone", x.count(12), 1);
        KIT.due("a fault leaves the image", x.back(), 5);
        x.rate(7);
        Kit.tell(x, Kit.STREET);
        KIT.due("the week", x.count(4), 0);
        KIT.due("nothing held", x.count(6), 0);
        KIT.due("nothing paid", x.count(8), 0);
        KIT.due("nothing found", x.count(10), 0);
        KIT.due("nothing to undo", x.undo(), -1);
        KIT.due("no image", x.back(), -1);
        KIT.due("the rate", x.count(5), 50);
        x.find(4, 0, true);
        KIT.due("all known", x.count(11), 1);
        Kit.tell(x, "");
        KIT.due("without lines: people", x.count(0), 0);
        KIT.due("without lines: knots", x.count(3), 0);
        KIT.due("without lines: rate", x.count(5), 20);
    }

    private static void tokens() {
        KIT.faulty("mans a 1 1;", 1, 0);
        KIT.faulty(";", 1, 0);
        KIT.faulty("  \n a;", 1, 4);
        KIT.faulty("7;", 1, 0);
        KIT.faulty("Man a 1 1;", 1, 0);
        KIT.faulty("rate 1", 1, 6);
        KIT.faulty("rate 1   ", 1, 9);
        KIT.faulty("rate", 1, 4);
        KIT.faulty("rate -1;", 1, 5);
        KIT.faulty("rate 1;;", 1, 7);
        KIT.faulty("rate 1\t;", 1, 6);
        KIT.faulty("rate 1" + (char) 233 + ";", 1, 6);
        KIT.faulty("rate 1" + (char) 0 + ";", 1, 6);
        KIT.faulty("man sevenaa 1 1;", 1, 4);
        KIT.faulty("man thought 1 1;", 1, 4);
        KIT.faulty("man week 1 1;", 1, 4);
        KIT.faulty("man 1 1 1;", 1, 4);
        KIT.faulty("man a 1;", 1, 7);
        KIT.faulty("man a 1 1 1;", 1, 10);
        KIT.faulty("thoughts a 1 1 1;", 1, 0);
        KIT.faulty("man a 1 1;thought reader 1 1 1;", 1, 18);
        KIT.faulty("law", 1, 3);
        KIT.faulty("law rate 1;", 1, 4);
        KIT.faulty("law a 1;", 1, 4);
        KIT.faulty("law read 1", 1, 10);
        KIT.faulty("read 1;", 1, 0);
    }

    private static void tooMuch() {
        KIT.faulty("man a 1000 1;", 2, 6);
        KIT.faulty("man a 99999999999999999999 1;", 2, 6);
        KIT.faulty("man a 999 10;", 2, 10);
        KIT.faulty("man a 1 1;thought a 0 1 1;", 2, 20);
        KIT.faulty("man a 1 1;thought a 100 1 1;", 2, 20);
        KIT.faulty("man a 1 1;thought a 1 100 1;", 2, 22);
        KIT.faulty("man a 1 1;thought a 1 1 4;", 2, 24);
        KIT.faulty("reader a 10 1;", 2, 9);
        KIT.faulty("reader a 1 16;", 2, 11);
        KIT.faulty("rate 101;", 2, 5);
        KIT.faulty("dull 0;", 2, 5);
        KIT.faulty("dull 100;", 2, 5);
        KIT.faulty("seed 100000;", 2, 5);
        KIT.faulty("law due 10000;", 2, 8);
        String men = "man a 1 1;man b 1 1;man c 1 1;man d 1 1;man e 1 1;man f 1 1;";
        KIT.fine(men, 6);
        KIT.faulty(men + "man a", 2, 60);
        String readers = "reader a 1 1;reader b 1 1;reader c 1 1;reader d 1 1;";
        KIT.fine(readers, 4);
        KIT.faulty(readers + "reader 5", 2, 52);
        String thoughts = "man a 1 1;" + "thought a 1 1 1;".repeat(12);
        KIT.fine(thoughts, 13);
        KIT.faulty(thoughts + "thought b", 2, 202);
    }

    private static void toldAlready() {
        KIT.faulty("man a 1 1;man b 1 1;man a", 3, 24);
        KIT.faulty("reader a 1 1;reader a 1000 1;", 3, 20);
        KIT.faulty("rate 1;rate", 3, 7);
        KIT.faulty("dull 1;dull 1;", 3, 7);
        KIT.faulty("seed 1;seed 1;", 3, 7);
        KIT.faulty("law read 1;law read", 3, 15);
        KIT.faulty("law due 1;law due 1;", 3, 14);
        KIT.faulty("law hide 1;law hide 1;", 3, 15);
        KIT.faulty("thought a 1 1 1;man a 1 1;", 4, 8);
        KIT.faulty("reader a 1 1;thought a 1 1 1;", 4, 21);
        KIT.faulty("man a 1 1;thought ab 1 1 1;", 4, 18);
    }

    private static void lawsAsTexts() {
        KIT.fine("law read 1;law due 1;law hide 1;", 3);
        KIT.fine("law read not not worth<=3 and not(1)or 2<>3;", 1);
        KIT.fine("law read (1<2)<(2>=3)+(not 1);", 1);
        KIT.fine("law read ((((((((1))))))));", 1);
        KIT.fine("law read (((((((1)))))))+((((((((1))))))));", 1);
        KIT.faulty("law read (((((((((1)))))))));", 2, 17);
        KIT.faulty("law read ;", 1, 9);
        KIT.faulty("law read 1 2;", 1, 11);
        KIT.faulty("law read 1<2<3;", 1, 12);
        KIT.faulty("law read (1<2<3);", 1, 13);
        KIT.faulty("law read 1<(2=3)=4;", 1, 16);
        KIT.faulty("law read 1< =2;", 1, 12);
        KIT.faulty("law read 1> <2;", 1, 12);
        KIT.faulty("law read 1><2;", 1, 11);
        KIT.faulty("law read 1=<2;", 1, 11);
        KIT.faulty("law read 1 + not 2;", 1, 13);
        KIT.faulty("law read 1 < not 2;", 1, 13);
        KIT.faulty("law read not;", 1, 12);
        KIT.faulty("law read 1 not 2;", 1, 11);
        KIT.faulty("law read - 1;", 1, 9);
        KIT.faulty("law read 1 + ;", 1, 13);
        KIT.faulty("law read 1 and or 2;", 1, 15);
        KIT.faulty("law read ();", 1, 10);
        KIT.faulty("law read (1;", 1, 11);
        KIT.faulty("law read 1);", 1, 10);
        KIT.faulty("law read (1)(2);", 1, 12);
        KIT.faulty("law read rate;", 1, 9);
        KIT.faulty("law read bravely;", 1, 9);
        KIT.faulty("law read worth + a;", 1, 17);
        KIT.faulty("law read 1 +", 1, 12);
    }

    private static void knots() {
        String most = "law read 1" + "+1".repeat(31) + ";";
        KIT.fine(most, 1);
        KIT.fine(most + "law due 1;", 2);
        KIT.faulty(most + "law due (1 +1);", 2, most.length() + 11);
        KIT.faulty(most + "law due (1) 1;", 1, most.length() + 12);
        KIT.faulty("law read " + "not ".repeat(64) + "1;", 2, 265);
        KIT.faulty("law read " + "not ".repeat(65) + "1;", 2, 265);
        KIT.fine("law read " + "not ".repeat(63) + "1;", 1);
        KIT.due("knots", Kit.told("law read not (1+2)*worth<3 and 4 or 5;law hide (week);").count(3), 13);
        KIT.due("knots of a text that has a fault", Kit.told("law read 1+1;law").count(3), 0);
    }

    private static void naming() {
        ThoughtTax x = Kit.told("man a 1 1;man ab 1 1;man zzzzzz 1 1;reader b 1 1;reader a 1 1;");
        KIT.due("a man", x.named(0, 1 << 25), 0);
        KIT.due("a man of two letters", x.named(0, 1 << 25 | 2 << 20), 1);
        KIT.due("a man of six letters", x.named(0, 26 * 34636833), 2);
        KIT.due("a reader", x.named(1, 2 << 25), 0);
        KIT.due("a reader of a man's name", x.named(1, 1 << 25), 1);
        KIT.due("a man of a reader's name", x.named(0, 2 << 25), -1);
        KIT.due("letters at the other end", x.named(0, 1), -1);
        KIT.due("no letters", x.named(0, 0), -1);
        KIT.due("letters below 0", x.named(0, -1), -1);
        KIT.due("named(2, ..)", x.named(2, 1 << 25), -1);
        KIT.due("named(-1, ..)", x.named(-1, 1 << 25), -1);
    }
}
