/** The edges that "Terms" and promises 1 to 5 name: a text, its faults with their places, the tape, names. */
public final class EdgesTextTest {
    private static final Kit KIT = new Kit("EdgesTextTest");
    private static final String[] LANGUAGE = {"man", "thought", "reader", "rate", "dull", "seed", "law", "read", "due",
        "hide", "or", "and", "not", "worth", "skill", "purse", "wiles", "dulled", "there", "week"};
    private static final String[] SIGNS = {"<", "<=", "=", "<>", ">=", ">", "+", "-", "*", "/", "and", "or"};
    private static final String MEN = "man a 1 1;man b 1 1;man c 1 1;man d 1 1;man e 1 1;man f 1 1;";
    private static final String THOUGHTS = "man a 1 1;" + "thought a 1 1 1;".repeat(12);
    private static final String READERS = "reader a 1 1;reader b 1 1;reader c 1 1;reader d 1 1;";
    private static final int FULL_KNOTS = 64;

    public static void main(String[] args) {
        whatTellsTheState();
        newObject();
        tape();
        lengths();
        faultsOfTheLatest();
        whatAFaultLeaves();
        whatATextLeaves();
        wordsOfSixLetters();
        wordsOfTheLanguage();
        everyByteAsABlank();
        everyByteAsASign();
        blanksSplit();
        signsOfTwo();
        numbers();
        numbersThatWrap();
        withoutALine();
        withoutALineBehindOthers();
        howMany();
        open();
        knots();
        knotsOfAllLaws();
        toldAlready();
        notToldAhead();
        moreMustCome();
        firstAlongTheText();
        leastOfOnePlace();
        grammar();
        naming();
        KIT.end();
    }

    private static void changes(String what, Kit.Call call) {
        ThoughtTax x = Kit.busy();
        call.of(x);
        KIT.due(what + " is told apart", Kit.all(x).equals(Kit.all(Kit.busy())), false);
    }

    /** What "stays" looks at would be worth nothing if it didn't tell each of these. */
    private static void whatTellsTheState() {
        changes("feed", x -> x.feed(0x20202020, 0x20202020, 0x20202020, 0x20202020, 0x20202020));
        changes("text", x -> x.text(20));
        changes("a text with a fault", x -> x.text(3));
        changes("hide", x -> x.hide(1, 1) ? 1 : 0);
        changes("buy", x -> x.buy(2, 1));
        changes("round", x -> x.round(0, 1) ? 1 : 0);
        changes("rate", x -> x.rate(62) ? 1 : 0);
        changes("weeks", x -> x.weeks(1));
        changes("find", x -> x.find(1, 1, false));
        changes("strike", x -> x.strike(0));
        changes("known", x -> x.known(1) ? 1 : 0);
        changes("undo", x -> x.undo());
        changes("keep", x -> x.keep());
        changes("back", x -> x.back());
    }

    private static void newObject() {
        KIT.due("a new object is as one with a text without lines", Kit.all(new ThoughtTax()), Kit.all(Kit.told("")));
        KIT.due("an empty tape", new ThoughtTax().text(1), -2);
        KIT.due("an empty tape is a text", new ThoughtTax().text(0), 0);
    }

    private static ThoughtTax fed(int times) {
        ThoughtTax x = new ThoughtTax();
        for (int i = 0; i < times; i++) {
            x.feed(0x20202020, 0x20202020, 0x20202020, 0x20202020, 0x20202020);
        }
        return x;
    }

    private static void tape() {
        KIT.due("700 bytes", fed(34).feed(0, 0, 0, 0, 0), 700);
        KIT.stays("beyond 700", () -> fed(35), x -> x.feed(0x72617465, 0x20373b20, 0, 0, 0), -1);
        ThoughtTax full = fed(35);
        full.feed(0, 0, 0, 0, 0);
        KIT.due("none came: all 700 are blanks", full.text(700), 0);
        KIT.due("it is empty then", full.feed(0, 0, 0, 0, 0), 20);
        for (int place = 0; place < 20; place++) {
            int[] n = new int[5];
            for (int i = 0; i < 20; i++) {
                n[i / 4] = n[i / 4] << 8 | (i == place ? 200 + i : ' ');
            }
            ThoughtTax x = new ThoughtTax();
            x.feed(n[0], n[1], n[2], n[3], n[4]);
            KIT.due("a byte at " + place, x.text(20), -1);
            KIT.due("its place " + place, x.fault(1), place);
            x.feed(n[0], n[1], n[2], n[3], n[4]);
            KIT.due("ahead of it at " + place, x.text(place), 0);
        }
        String longest = "man aaaaaa 999 9;" + " ".repeat(700 - 17 - 7) + "rate 9;";
        KIT.due("the last byte of 700 counts", Kit.told(longest).count(5), 9);
        KIT.due("all but the last byte", Kit.told(longest.substring(0, 699)).fault(1), 699);
    }

    private static void lengths() {
        KIT.stays("text(-1)", x -> x.text(-1), -2);
        KIT.stays("text(least)", x -> x.text(Kit.LEAST), -2);
        KIT.stays("one byte more than the tape has", x -> x.text(21), -2);
        KIT.stays("text(most)", x -> x.text(Kit.MOST), -2);
        ThoughtTax x = Kit.busy();
        KIT.due("as many as the tape has", x.text(20), 1);
        KIT.due("what it tells", x.count(5), 77);
        x = Kit.busy();
        KIT.due("none of the bytes", x.text(0), 0);
        KIT.due("the tape is empty then", x.text(1), -2);
        x = Kit.busy();
        KIT.due("the line's bytes alone", x.text(8), 1);
        KIT.due("the bytes behind are gone, too", x.text(1), -2);
        x = Kit.busy();
        KIT.due("one byte less than the line", x.text(7), -1);
        KIT.due("more must come", x.fault(1), 7);
        KIT.due("the tape is empty with a fault, too", x.text(1), -2);
    }

    private static void faultsOfTheLatest() {
        ThoughtTax x = new ThoughtTax();
        KIT.due("fault(0) ahead of a text", x.fault(0), 0);
        KIT.due("fault(1) ahead of a text", x.fault(1), -1);
        Kit.tell(x, " rate 101;");
        KIT.due("its fault", x.fault(0), 2);
        KIT.due("its place", x.fault(1), 6);
        for (int what : new int[] {2, -1, Kit.LEAST, Kit.MOST}) {
            KIT.stays("fault(" + what + ")", y -> y.fault(what), -1);
        }
        x.text(1);
        KIT.due("-2 is none of them", x.fault(0), 2);
        KIT.due("-2 leaves the place", x.fault(1), 6);
        x.rate(3);
        x.keep();
        x.back();
        KIT.due("an image leaves it", x.fault(0), 2);
        Kit.tell(x, "rate 100;");
        KIT.due("without a fault", x.fault(0), 0);
        KIT.due("without a place", x.fault(1), -1);
        Kit.tell(x, "x");
        KIT.due("the first place", x.fault(1), 0);
    }

    private static void whatAFaultLeaves() {
        String[] texts = {"rate 101;", "man q 5 5;", "law read 1;law read", "man a 1 1;thought a 1 1 1;reader b 1 1;dull 9;seed 9;rate 9;x"};
        for (String text : texts) {
            ThoughtTax x = Kit.busy();
            KIT.due("a fault in what is on the tape", x.text(3), -1);
            KIT.due("a fault in " + text, Kit.tell(x, text + ":"), -1);
            KIT.due("all stays behind " + text, Kit.street(x), Kit.street(Kit.busy()));
        }
    }

    private static void whatATextLeaves() {
        ThoughtTax x = Kit.busy();
        x.text(0);
        Kit.tell(x, Kit.STREET);
        KIT.due("a text is as the first one", Kit.all(x), Kit.all(Kit.told(Kit.STREET)));
        ThoughtTax y = Kit.busy();
        Kit.tell(y, "");
        KIT.due("a text of no bytes", Kit.all(y), Kit.all(new ThoughtTax()));
        KIT.due("no image", y.back(), -1);
        ThoughtTax z = Kit.busy();
        z.known(0);
        z.text(8);
        KIT.due("all known, those to come, too", z.known(1), false);
        Kit.tell(z, Kit.STREET);
        z.find(4, 0, true);
        KIT.due("what is found then is known", z.count(11), 1);
        KIT.due("and counts", z.skills(0), 0b1111100000);
        z.text(0);
        KIT.due("nobody is left", z.count(0) + z.count(1) + z.count(2) + z.count(3), 0);
        KIT.due("how many lines", Kit.told(MEN + READERS).count(0), 6);
        KIT.fine(MEN + READERS, 10);
        KIT.fine("rate 1;" + " \n".repeat(300), 1);
        KIT.fine(" \n ", 0);
    }

    private static void wordsOfSixLetters() {
        String letters = "zyxwvu";
        int code = 0;
        for (int length = 1; length <= 6; length++) {
            String name = letters.substring(0, length);
            code |= letters.charAt(length - 1) - 'a' + 1 << 30 - 5 * length;
            ThoughtTax x = Kit.told("man " + name + " 3 0;reader " + name + " 4 0;thought " + name + " 5 0 0;");
            KIT.due("a man of " + length, x.named(0, code), 0);
            KIT.due("a reader of " + length, x.named(1, code), 0);
            KIT.due("a thought of " + name, x.count(1), 1);
        }
        KIT.faulty("man abcdefg 1 1;", 1, 4);
        KIT.faulty("reader abcdefg 1 1;", 1, 7);
        KIT.faulty("man abcdef 1 1;thought abcdefg 1 1 1;", 1, 23);
        KIT.faulty("abcdefg", 1, 0);
        KIT.faulty("law abcdefg", 1, 4);
        KIT.faulty("law read abcdefg", 1, 9);
        KIT.faulty("rate abcdefg", 1, 5);
        // Letters beyond the seventh don't make it a word of the language again.
        KIT.faulty("man a 1 1;athought", 1, 10);
        KIT.faulty("man a 1 1;" + "a".repeat(64) + "man", 1, 10);
        KIT.faulty("xxxxxxxxman a 1 1;", 1, 0);
        KIT.faulty("man a 1 1;man 1a 1 1;", 1, 14);
    }

    private static void wordsOfTheLanguage() {
        for (String word : LANGUAGE) {
            KIT.faulty("man " + word + " 1 1;", 1, 4);
            KIT.faulty("reader " + word + " 1 1;", 1, 7);
            KIT.faulty("man a 1 1;thought " + word + " 1 1 1;", 1, 18);
            String shorter = word.substring(0, word.length() - 1);
            if (!shorter.equals("rea") && word.length() > 2) {
                KIT.fine("man " + shorter + " 1 1;", 1);
            }
            if (word.length() < 6 && !word.equals("dull")) {
                KIT.fine("man " + word + "x 1 1;reader x" + word + " 1 1;", 2);
            }
        }
        KIT.fine("man rea 1 1;man text 1 1;man none 1 1;", 3);
    }

    private static void everyByteAsABlank() {
        for (int c = 0; c < 256; c++) {
            String text = "rate 1" + (char) c + ";";
            if (c == 10 || c == 32) {
                KIT.fine(text, 1);
            } else if (c >= '0' && c <= '9') {
                KIT.due(text, Kit.told(text).count(5), 10 + c - '0');
            } else if (c == ';') {
                KIT.faulty(text, 1, 7);
            } else {
                KIT.faulty(text, 1, 6);
            }
            String first = (char) c + "rate 1;";
            if (c == 10 || c == 32) {
                KIT.fine(first, 1);
            } else {
                KIT.faulty(first, 1, 0);
            }
        }
    }

    private static void everyByteAsASign() {
        for (int c = 0; c < 256; c++) {
            String text = "law read 1" + (char) c + "2;";
            if ("+-*/<>=".indexOf(c) >= 0) {
                KIT.fine(text, 1);
                KIT.due("knots of " + text, Kit.told(text).count(3), 3);
            } else if (c >= '0' && c <= '9') {
                KIT.due("knots of " + text, Kit.told(text).count(3), 1);
            } else {
                KIT.faulty(text, 1, c == 10 || c == 32 || c == ';' ? 11 : 10);
            }
        }
    }

    private static void blanksSplit() {
        KIT.faulty("ra te 7;", 1, 0);
        KIT.faulty("rate 1 0;", 1, 7);
        KIT.faulty("man a b 1 1;", 1, 6);
        KIT.faulty("lawread 1;", 1, 0);
        KIT.faulty("law readnot 1;", 1, 4);
        KIT.fine("rate7;dull8;seed9;", 3);
        KIT.fine("man a7 7;reader b7 7;thought a7 7 3;", 3);
        KIT.fine("law read1;law due not1;law hide 1and 1or 1;", 3);
        KIT.fine("\n\nlaw\nread\n(\n1\n)\n;\n", 1);
    }

    private static void signsOfTwo() {
        KIT.due("1<=1", Kit.worked("1<=1"), 1);
        KIT.due("1>=1", Kit.worked("1>=1"), 1);
        KIT.due("1<>1", Kit.worked("1<>1"), 0);
        KIT.faulty("law read 1< =1;", 1, 12);
        KIT.faulty("law read 1> =1;", 1, 12);
        KIT.faulty("law read 1< >1;", 1, 12);
        KIT.faulty("law read 1<\n=1;", 1, 12);
        KIT.faulty("law read 1>>1;", 1, 11);
        KIT.faulty("law read 1<<1;", 1, 11);
        KIT.faulty("law read 1><1;", 1, 11);
        KIT.faulty("law read 1==1;", 1, 11);
        KIT.faulty("law read 1=<1;", 1, 11);
        KIT.faulty("law read 1=>1;", 1, 11);
        KIT.faulty("law read 1<=>1;", 1, 12);
        KIT.faulty("law read 1<>=1;", 1, 12);
        KIT.faulty("law read 1>=<1;", 1, 12);
        ThoughtTax x = new ThoughtTax();
        x.feed(0x6c617720, 0x72656164, 0x20313c3d, 0x3c3d3c3d, 0x20202020);
        KIT.due("a sign's second half behind the text's end", x.text(11), -1);
        KIT.due("is no more of it", x.fault(1), 11);
    }

    private static void taken(String text, Kit.Call call, long want) {
        KIT.fine(text, text.split(";").length);
        KIT.due(text, call.of(Kit.told(text)), want);
    }

    private static void numbers() {
        taken("man a 0 0;", x -> x.man(0, 0) * 10 + x.man(0, 1), 0);
        taken("man a 999 9;", x -> x.man(0, 0) * 10 + x.man(0, 1), 9999);
        KIT.faulty("man a 1000 0;", 2, 6);
        KIT.faulty("man a 999 10;", 2, 10);
        taken("man a 0 0;thought a 1 0 0;", x -> x.thought(0, 1) * 10000 + x.thought(0, 2) * 10 + x.thought(0, 3), 10000);
        taken("man a 0 0;thought a 99 99 3;", x -> x.thought(0, 1) * 10000 + x.thought(0, 2) * 10 + x.thought(0, 3), 990993);
        KIT.faulty("man a 0 0;thought a 0 0 0;", 2, 20);
        KIT.faulty("man a 0 0;thought a 100 0 0;", 2, 20);
        KIT.faulty("man a 0 0;thought a 99 100 0;", 2, 23);
        KIT.faulty("man a 0 0;thought a 99 99 4;", 2, 26);
        taken("reader a 0 0;", x -> x.reader(0, 0) * 100 + x.reader(0, 1), 0);
        taken("reader a 9 15;", x -> x.reader(0, 0) * 100 + x.reader(0, 1), 915);
        KIT.faulty("reader a 10 0;", 2, 9);
        KIT.faulty("reader a 9 16;", 2, 11);
        taken("rate 0;", x -> x.count(5), 0);
        taken("rate 100;", x -> x.count(5), 100);
        KIT.faulty("rate 101;", 2, 5);
        taken("man a 9 0;dull 1;", x -> x.buy(0, 9), 9);
        taken("man a 99 0;dull 99;", x -> x.buy(0, 1) * 1000 + x.man(0, 0), 1000);
        taken("man a 98 0;dull 99;", x -> x.buy(0, 1), -2);
        KIT.faulty("dull 0;", 2, 5);
        KIT.faulty("dull 100;", 2, 5);
        KIT.fine("seed 0;", 1);
        KIT.fine("seed 99999;", 1);
        KIT.faulty("seed 100000;", 2, 5);
        KIT.due("a law's 0", Kit.worked("0"), 0);
        KIT.due("a law's 9999", Kit.worked("9999"), 9999);
        KIT.faulty("law read 10000;", 2, 9);
        KIT.faulty("law read 1+10000;", 2, 11);
        KIT.faulty("law hide (10000);", 2, 10);
    }

    private static void numbersThatWrap() {
        String[] wrapping = {"2147483648", "4294967296", "4294967297", "18446744073709551616", "18446744073709551617",
            "340282366920938463463374607431768211457", "1000000", "10000000", "9".repeat(300)};
        for (String number : wrapping) {
            KIT.faulty("rate " + number + ";", 2, 5);
            KIT.faulty("seed " + number + ";", 2, 5);
            KIT.faulty("law due " + number + ";", 2, 8);
            KIT.faulty("man a " + number + " 1;", 2, 6);
        }
        String zeros = "0".repeat(300);
        KIT.due("zeros ahead", Kit.told("rate " + zeros + "100;").count(5), 100);
        KIT.faulty("rate " + zeros + "101;", 2, 5);
        KIT.fine("seed " + zeros + "99999;law due " + zeros + "9999;", 2);
        KIT.faulty("dull " + zeros + ";", 2, 5);
    }

    private static void withoutALine() {
        ThoughtTax x = Kit.told("man a 44 0;man b 45 0;");
        KIT.due("rate 20 without", x.count(5), 20);
        KIT.due("dull 5 without: 44 haven't nine", x.buy(0, 9), -2);
        KIT.due("dull 5 without: 45 have", x.buy(1, 9), 9);
        KIT.due("all of it", x.man(1, 0), 0);
        String street = "man a 999 0;thought a 9 0 0;thought a 8 0 0;thought a 7 0 0;thought a 6 0 0;reader r 5 1;law hide 99;rate 100;";
        ThoughtTax y = Kit.told(street);
        ThoughtTax z = Kit.told(street + "seed 0;");
        for (int i = 0; i < 10; i++) {
            y.weeks(4);
            z.weeks(4);
            KIT.due("seed 0 without", y.count(8), z.count(8));
        }
    }

    /** Two texts ahead, as two may be kept inside; one of them with a fault. */
    private static void withoutALineBehindOthers() {
        String all = "man q 9 9;thought q 9 9 3;reader q 9 9;rate 9;dull 9;seed 9;law read 9;law due 9;law hide 9;";
        String[] texts = {"man a 45 0;", "man a 999 0;thought a 9 0 0;thought a 8 0 0;reader r 5 1;", "man a 99 0;thought a 9 0 0;reader r 9 1;rate 50;"};
        for (String text : texts) {
            ThoughtTax x = Kit.told(all);
            Kit.tell(x, all);
            Kit.tell(x, all + "law");
            Kit.tell(x, text);
            KIT.due("a purse of 45 buys nine by 5", x.buy(0, 9), 9);
            ThoughtTax y = Kit.told(text);
            y.buy(0, 9);
            x.weeks(1);
            y.weeks(1);
            KIT.due("laws, too", x.law(0, 0) == Long.MIN_VALUE && x.law(1, 0) == Long.MIN_VALUE && x.law(2, 0) == Long.MIN_VALUE, true);
            KIT.due("as if nothing had been told ahead of " + text, Kit.all(x), Kit.all(y));
        }
    }

    private static void howMany() {
        KIT.fine(MEN, 6);
        KIT.faulty(MEN + "man g 1 1;", 2, 60);
        KIT.faulty(MEN + " man", 2, 61);
        KIT.faulty(MEN + "rate 1;man a", 2, 67);
        KIT.fine(THOUGHTS, 13);
        KIT.faulty(THOUGHTS + "thought a 1 1 1;", 2, 202);
        KIT.faulty(THOUGHTS + "\nthought", 2, 203);
        KIT.fine(READERS, 4);
        KIT.faulty(READERS + "reader e 1 1;", 2, 52);
        KIT.faulty(READERS + "man a 1 1;reader", 2, 62);
        KIT.fine(READERS + MEN + "thought f 1 1 1;".repeat(12), 22);
        KIT.due("the twelfth is there", Kit.told(THOUGHTS).thought(11, 1), 1);
        KIT.due("the sixth is there", Kit.told(MEN).man(5, 0), 1);
        KIT.due("the fourth is there", Kit.told(READERS).reader(3, 0), 1);
    }

    private static void open() {
        KIT.due("eight open", Kit.worked("((((((((7))))))))"), 7);
        KIT.faulty("law read (((((((((7)))))))));", 2, 17);
        KIT.faulty("law read ((((((((1+(", 2, 19);
        KIT.due("a ninth when one is closed", Kit.worked("((((((((7)+(1))))))))"), 8);
        KIT.faulty("law read ((((((((7)+((1", 2, 21);
        KIT.fine("law read ((((((((7))))))));law due ((((((((7))))))));", 2);
        KIT.due("many, one behind another", Kit.worked("(1)+(1)+(1)+(1)+(1)+(1)+(1)+(1)+(1)+(1)"), 10);
        KIT.due("eight open with a comparison in each", Kit.worked("1<(1<(1<(1<(1<(1<(1<(1<(0))))))))"), 0);
        KIT.due("a comparison in each, the other way", Kit.worked("((((((((3<4)<4)<4)<4)<4)<4)<4)<4)<4"), 1);
        KIT.faulty("law read (1))", 1, 12);
        KIT.faulty("law read ((1);", 1, 13);
        ThoughtTax x = new ThoughtTax();
        for (String broken : new String[] {"law read ((((((((", "law read ((((((((1<", "law read 1<1 1", "law read 1<", "law read 1+not"}) {
            KIT.due("a fault of " + broken, Kit.tell(x, broken), -1);
            KIT.due("none is open behind " + broken, Kit.tell(x, "law read ((((((((1))))))))<1;"), 1);
            KIT.due("the ninth behind " + broken, Kit.tell(x, "law read (((((((((1"), -1);
            KIT.due("at its place", x.fault(1), 17);
        }
    }

    /** So many knots and nothing behind them: "law read 1+1+1 .." with an operand last if they are odd. */
    private static String filled(int knots) {
        return "law read 1" + "+1".repeat((knots - 1) / 2) + (knots % 2 == 0 ? "+" : "");
    }

    private static void knots() {
        String wants = filled(FULL_KNOTS);
        String has = filled(FULL_KNOTS - 1);
        KIT.fine(has + ";", 1);
        KIT.due("63 knots", Kit.told(has + ";").count(3), 63);
        KIT.faulty(wants + "1;", 2, wants.length());
        KIT.faulty(wants + "worth;", 2, wants.length());
        KIT.faulty(wants + "(1);", 2, wants.length() + 1);
        for (String sign : SIGNS) {
            String sixtyFourth = has + " " + sign + " ";
            KIT.faulty(sixtyFourth + "1;", 2, sixtyFourth.length());
            String negated = "law read not 1" + "+1".repeat(31) + " ";
            KIT.faulty(negated + sign + " 1;", 2, negated.length());
        }
        String nots = "law read " + "not ".repeat(63);
        KIT.fine(nots + "1;", 1);
        KIT.due("64 knots", Kit.told(nots + "1;").count(3), 64);
        KIT.fine(nots + "week;", 1);
        KIT.faulty(nots + "not 1;", 2, nots.length() + 4);
        KIT.faulty(nots + "not not;", 2, nots.length() + 4);
        KIT.faulty(nots + "1+1;", 2, nots.length() + 1);
        KIT.fine("law read " + "not ".repeat(55) + "((((((((" + "not ".repeat(8) + "1))))))));", 1);
        KIT.due("'(' is none", Kit.told("law read ((1)+(2));").count(3), 3);
        String[] one = {"1", "0009999", "worth", "skill", "purse", "wiles", "dulled", "there", "week"};
        for (String operand : one) {
            KIT.due("one knot: " + operand, Kit.told("law due " + operand + ";").count(3), 1);
            KIT.due("two knots: not " + operand, Kit.told("law due not " + operand + ";").count(3), 2);
        }
        for (String sign : SIGNS) {
            KIT.due("three knots by " + sign, Kit.told("law due 1 " + sign + " 1;").count(3), 3);
        }
    }

    private static void knotsOfAllLaws() {
        String read = "law read not 1" + "+1".repeat(20) + ";";
        String due = "law due 1" + "+1".repeat(10) + ";";
        KIT.due("63 of both", Kit.told(read + due).count(3), 63);
        KIT.fine(read + due + "law hide 1;", 3);
        KIT.due("64 of all", Kit.told(read + due + "law hide week;").count(3), 64);
        KIT.faulty(read + due + "law hide not week;", 2, (read + due).length() + 13);
        KIT.faulty(read + due + "law hide (1)-1;", 2, (read + due).length() + 12);
        ThoughtTax x = Kit.told(read + due + "law hide 1;");
        Kit.tell(x, read + due + "law hide 1;");
        KIT.due("a text counts its own alone", x.fault(0), 0);
        Kit.tell(x, read + due + "law hide not not 1;");
        KIT.due("all stays with a fault", x.count(3), 64);
        Kit.tell(x, "law hide 1;");
        KIT.due("knots of a shorter one", x.count(3), 1);
    }

    private static void toldAlready() {
        KIT.faulty("man a 1 1;man a 1 1;", 3, 14);
        KIT.faulty(MEN.substring(0, 50) + "man e 1 1;", 3, 54);
        KIT.faulty("reader a 1 1;reader a 1 1;", 3, 20);
        KIT.fine("man a 1 1;reader a 1 1;", 2);
        KIT.fine("reader a 1 1;man a 1 1;", 2);
        KIT.fine("man a 1 1;man aa 1 1;man aaaaaa 1 1;man aaaaa 1 1;", 4);
        KIT.faulty("rate 20;rate 20;", 3, 8);
        KIT.faulty("dull 5;dull 5;", 3, 7);
        KIT.faulty("seed 0;seed 0;", 3, 7);
        KIT.fine("rate 1;dull 1;seed 1;", 3);
        KIT.faulty("rate 1;dull 1;seed 1;dull 1;", 3, 21);
        KIT.faulty("law read 1; law  read 1;", 3, 17);
        KIT.faulty("law due 0;law due 0;", 3, 14);
        KIT.faulty("law hide 0;law hide 0;", 3, 15);
        KIT.faulty("law read 0;law due 0;law hide 0;law due 0;", 3, 36);
        KIT.fine("man a 1 1;thought a 1 1 1;thought a 1 1 1;", 3);
        ThoughtTax x = Kit.told("rate 7;dull 7;seed 7;man a 1 1;reader a 1 1;law read 1;");
        Kit.tell(x, "rate 7;dull 7;seed 7;man a 1 1;reader a 1 1;law read 1;");
        KIT.due("told in the text ahead is no fault", x.fault(0), 0);
        Kit.tell(x, "rate 7;x");
        Kit.tell(x, "rate 7;");
        KIT.due("told in a text that had a fault is none", x.fault(0), 0);
    }

    private static void notToldAhead() {
        KIT.faulty("thought a 1 1 1;man a 1 1;", 4, 8);
        KIT.faulty("reader a 1 1;thought a 1 1 1;", 4, 21);
        KIT.faulty("man a 1 1;thought aa 1 1 1;", 4, 18);
        KIT.faulty("man aa 1 1;thought a 1 1 1;", 4, 19);
        KIT.faulty("man a 1 1;thought b", 4, 18);
        ThoughtTax x = Kit.told("man a 1 1;");
        Kit.tell(x, "thought a 1 1 1;");
        KIT.due("told in the text ahead isn't told", x.fault(0), 4);
        KIT.due("the one told last", Kit.told(MEN + "thought f 1 1 1;").thought(0, 0), 5);
    }

    private static void moreMustCome() {
        String text = "man a 1 1;thought a 1 1 1;reader b 1 1;rate 1;dull 1;seed 1;law read not(1+worth)<2 and 3;";
        for (int length = 1; length < text.length(); length++) {
            String part = text.substring(0, length);
            boolean isWhole = part.endsWith(";");
            boolean cutsWord = length < text.length() && Character.isLetter(part.charAt(length - 1)) && Character.isLetter(text.charAt(length));
            if (isWhole) {
                KIT.due("faults of " + part, Kit.told(part).fault(0), 0);
            } else if (!cutsWord) {
                KIT.faulty(part, 1, length);
                KIT.faulty(part + " \n", 1, length + 2);
            }
        }
    }

    private static void firstAlongTheText() {
        KIT.faulty("rate 101;man;", 2, 5);
        KIT.faulty("man;rate 101;", 1, 3);
        KIT.faulty("thought a 0 100 4;", 4, 8);
        KIT.faulty("man a 1000 10", 2, 6);
        KIT.faulty("rate 1;rate 101;", 3, 7);
        KIT.faulty("rate 101;rate 1;", 2, 5);
        KIT.faulty(MEN + "man a 1000 1;", 2, 60);
        KIT.faulty("law read 1;law read 10000;", 3, 15);
        KIT.faulty("law read 10000 1;", 2, 9);
        KIT.faulty("law read 1 10000;", 1, 11);
        KIT.faulty("man a 1 1;man a 1000 1;", 3, 14);
        KIT.faulty("rate 101", 2, 5);
    }

    private static void leastOfOnePlace() {
        String full = filled(FULL_KNOTS - 1);
        KIT.faulty("man a 1 1 1000;", 1, 10);
        KIT.faulty("man 1000 1 1;", 1, 4);
        KIT.faulty("law read 1(((((((((1;", 1, 10);
        KIT.faulty("law read ((((((((1(", 1, 18);
        KIT.faulty(full + " 10000;", 1, full.length() + 1);
        String last = filled(FULL_KNOTS);
        KIT.faulty(last + "+1;", 1, last.length());
        KIT.faulty(last + "not 1;", 1, last.length());
        KIT.faulty(last + ");", 1, last.length());
        KIT.faulty(last + "rate;", 1, last.length());
        KIT.faulty(last + "a;", 1, last.length());
        KIT.faulty(last + "10000;", 2, last.length());
        String compared = "law read not 1<1" + "+1".repeat(30);
        KIT.due("64 knots, one of them a comparison", Kit.told(compared + ";").count(3), 64);
        KIT.faulty(compared + "<1;", 1, compared.length());
        KIT.faulty(compared + "-1;", 2, compared.length());
        KIT.faulty(compared + " and 1;", 2, compared.length() + 1);
        KIT.faulty(compared + " not 1;", 1, compared.length() + 1);
        KIT.faulty(compared + " 1;", 1, compared.length() + 1);
        KIT.faulty(MEN + "man man 1 1;", 2, 60);
        KIT.faulty("man a 1 1;man man 1 1;", 1, 14);
        KIT.faulty("thought man 1 1 1;", 1, 8);
    }

    private static void grammar() {
        KIT.fine("law read not not not 1;", 1);
        KIT.fine("law read 1 and not 1 or not 1;", 1);
        KIT.fine("law read (not 1)+1<(1<1);", 1);
        KIT.fine("law read 1<1 and 1<1 or 1<1 and not 1<1;", 1);
        KIT.fine("law read 1<1;law due 1=1;law hide 1>1;", 3);
        KIT.faulty("law read 1<1<1;", 1, 12);
        KIT.faulty("law read 1<1+1*1<1;", 1, 16);
        KIT.faulty("law read not 1<1=1;", 1, 16);
        KIT.faulty("law read (1)<(1)<(1);", 1, 16);
        KIT.faulty("law read 1 and 1<1>1;", 1, 18);
        KIT.faulty("law read ((1<1)<1<1);", 1, 17);
        KIT.fine("law read 1<(1<1);", 1);
        for (String sign : SIGNS) {
            KIT.faulty("law read " + sign + " 1;", 1, 9);
            KIT.faulty("law read 1 " + sign + ";", 1, 11 + sign.length());
            KIT.faulty("law read (1 " + sign + ");", 1, 12 + sign.length());
            boolean joins = sign.equals("and") || sign.equals("or");
            if (joins) {
                KIT.fine("law read 1 " + sign + " not 1;", 1);
            } else {
                KIT.faulty("law read 1 " + sign + " not 1;", 1, 12 + sign.length());
                KIT.fine("law read 1 " + sign + " (not 1);", 1);
            }
        }
        KIT.faulty("law read;", 1, 8);
        KIT.faulty("law read not;", 1, 12);
        KIT.faulty("law read ();", 1, 10);
        KIT.faulty("law read (not);", 1, 13);
        KIT.faulty("law read 1 1;", 1, 11);
        KIT.faulty("law read 1(1);", 1, 10);
        KIT.faulty("law read (1)1;", 1, 12);
        KIT.faulty("law read (1)(1);", 1, 12);
        KIT.faulty("law read worth worth;", 1, 15);
        KIT.faulty("law law 1;", 1, 4);
        KIT.faulty("law 1;", 1, 4);
        KIT.faulty("law ;", 1, 4);
        KIT.faulty("law worth 1;", 1, 4);
        for (String word : LANGUAGE) {
            boolean isLine = "man thought reader rate dull seed law".contains(word) && !word.equals("read");
            if (!isLine) {
                KIT.faulty(word + " a 1 1;", 1, 0);
            }
            boolean isLaw = word.equals("read") || word.equals("due") || word.equals("hide");
            if (!isLaw) {
                KIT.faulty("law " + word + " 1;", 1, 4);
            }
        }
        for (String missing : new String[] {"man a 1;", "man a;", "man;", "reader a 1;", "reader a;", "reader;", "rate;", "dull;", "seed;"}) {
            KIT.faulty(missing, 1, missing.length() - 1);
        }
        for (String missing : new String[] {"thought a 1 1;", "thought a 1;", "thought a;", "thought;"}) {
            KIT.faulty("man a 1 1;" + missing, 1, 9 + missing.length());
        }
        for (String more : new String[] {"man a 1 1 1;", "reader a 1 1 1;", "rate 1 1;", "dull 1 1;", "seed 1 1;"}) {
            KIT.faulty(more, 1, more.length() - 2);
        }
        KIT.faulty("man a 1 1;thought a 1 1 1 1;", 1, 26);
    }

    private static void naming() {
        ThoughtTax x = Kit.told("man z 1 1;man azzzzz 1 1;man zzzzzz 1 1;reader a 1 1;reader zzzzzz 1 1;");
        int z = 26;
        int six = z << 25 | z << 20 | z << 15 | z << 10 | z << 5 | z;
        KIT.due("one letter", x.named(0, z << 25), 0);
        KIT.due("six letters", x.named(0, six), 2);
        KIT.due("the first one highest", x.named(0, six - (25 << 25)), 1);
        KIT.due("a reader", x.named(1, 1 << 25), 0);
        KIT.due("a reader of six", x.named(1, six), 1);
        KIT.due("of the other kind", x.named(0, 1 << 25), -1);
        KIT.due("of the other kind, a reader", x.named(1, z << 25), -1);
        int[] none = {0, 1, z, z << 20, six + 1, six - 1, z << 25 | 1, 1 << 30 | z << 25, 1 << 31 | z << 25, -1, Kit.LEAST, Kit.MOST};
        for (int letters : none) {
            KIT.due("no such letters " + letters, x.named(0, letters), -1);
        }
        for (int what : new int[] {-1, 2, Kit.LEAST, Kit.MOST}) {
            KIT.stays("named(" + what + ", a)", y -> y.named(what, 1 << 25), -1);
        }
        KIT.stays("no such letters", y -> y.named(0, 26 << 25), -1);
        KIT.due("nobody in a new object", new ThoughtTax().named(0, 0), -1);
        Kit.tell(x, "man a 1 1;");
        KIT.due("told in the text ahead", x.named(0, z << 25), -1);
        Kit.tell(x, "man z 1 1;x");
        KIT.due("told in a text that had a fault", x.named(0, z << 25), -1);
        KIT.due("what stayed", x.named(0, 1 << 25), 0);
    }
}
