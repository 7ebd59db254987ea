import java.util.NoSuchElementException;

/** The edges that part 2 and promises 6 to 14 name: weeks, readings, what is due, laws, what is done by call. */
public final class EdgesWeeksTest {
    private static final Kit KIT = new Kit("EdgesWeeksTest");
    private static final long NO_LAW = Long.MIN_VALUE;
    private static final long TRILLION = 1000000000000L;
    private static final String LONG_HELD = "law hide 99;";

    public static void main(String[] args) {
        roundsAtFirst();
        whenAThoughtComes();
        eachFourthWeek();
        aboveANumber();
        noNumber();
        numbersWithoutWhatIsAbove31Bits();
        readIsKeptWithinAHundred();
        readWithoutALaw();
        tongues();
        byDoorsAndNumbers();
        dueIsKeptWithin();
        dueWithoutALaw();
        nothingIfNoneWasRead();
        asMuchAsThePurseHas();
        dullOnesAreGone();
        hideIsKeptWithin();
        hideWithoutALaw();
        goneByNumbers();
        names();
        values();
        whatBindsMore();
        errors();
        asItGoes();
        thought();
        man();
        reader();
        law();
        hide();
        buy();
        round();
        rate();
        weeks();
        KIT.end();
    }

    private static void roundsAtFirst() {
        String men = "man a 1 1;man b 1 1;man c 1 1;man d 1 1;man e 1 1;man f 1 1;";
        String readers = "reader a 1 1;reader b 1 1;reader c 1 1;reader d 1 1;";
        for (int many = 0; many <= 4; many++) {
            ThoughtTax x = Kit.told(readers.substring(0, 13 * many) + men);
            for (int man = 0; man < 6; man++) {
                KIT.due(many + " readers, door " + man, x.man(man, 5), many == 0 ? -1 : man % many);
            }
        }
        ThoughtTax behind = Kit.told(men + readers);
        KIT.due("readers told behind the people", behind.man(5, 5), 1);
    }

    private static void whenAThoughtComes() {
        for (int week : new int[] {0, 1, 3, 98, 99}) {
            ThoughtTax x = Kit.told("man a 1 9;man b 1 9;thought b 5 " + week + " 0;");
            x.weeks(week);
            KIT.due("to come in week " + week, x.thought(0, 4), 0);
            KIT.due("held by nobody in week " + week, x.thought(0, 5), -1);
            KIT.due("nothing is held in week " + week, x.count(6), 0);
            x.weeks(1);
            KIT.due("held behind week " + week, x.thought(0, 4), 1);
            KIT.due("by whose it is", x.thought(0, 5), 1);
            x.weeks(17);
            KIT.due("held for 17 weeks", x.thought(0, 4), 1);
            x.weeks(1);
            KIT.due("gone", x.thought(0, 4), 2);
            KIT.due("held by nobody then", x.thought(0, 5), -1);
            x.weeks(99);
            KIT.due("gone for ever", x.thought(0, 4), 2);
        }
    }

    private static void eachFourthWeek() {
        ThoughtTax x = Kit.told("man a 999 0;thought a 5 0 0;reader r 9 15;law read 100;law due 1;" + LONG_HELD);
        for (int week = 0; week < 100; week++) {
            KIT.due("paid ahead of week " + week, x.count(8), week / 4);
            x.weeks(1);
        }
        ThoughtTax late = Kit.told("man a 999 0;thought a 5 3 0;thought a 6 4 0;reader r 9 15;law read 100;law due worth;");
        late.weeks(4);
        KIT.due("a thought of that week is read in it", late.count(8), 5);
        KIT.due("one of the next week isn't", late.thought(1, 6), 0);
    }

    private static int seedWhose(int hundredth) {
        for (int seed = 0; seed <= 99999; seed++) {
            if (Kit.draw(new long[] {seed}) % 100 == hundredth) {
                return seed;
            }
        }
        return -1;
    }

    private static int readBy(int likely, int seed) {
        ThoughtTax x = Kit.told("man a 999 0;thought a 5 0 0;reader r 9 15;law read " + likely + ";seed " + seed + ";");
        x.weeks(4);
        return x.thought(0, 6);
    }

    private static void aboveANumber() {
        for (int likely = 1; likely <= 99; likely++) {
            KIT.due(likely + " above a number of " + (likely - 1), readBy(likely, seedWhose(likely - 1)), 1);
            KIT.due(likely + " and a number of " + likely, readBy(likely, seedWhose(likely)), 0);
        }
        KIT.due("0 and a number of 0", readBy(0, seedWhose(0)), 0);
        KIT.due("99 and a number of 99", readBy(99, seedWhose(99)), 0);
        KIT.due("100 and a number of 99", readBy(100, seedWhose(99)), 1);
        KIT.due("the greatest seed", readBy(50, 99999), 50 > Kit.draw(new long[] {99999}) % 100 ? 1 : 0);
    }

    /** The second thought of 50 is read by the first number, if the one ahead of it takes none. */
    private static void noNumber() {
        for (int seed = 0; seed < 60; seed++) {
            long[] last = {seed * 1601};
            int first = Kit.draw(last) % 100;
            int second = Kit.draw(last) % 100;
            for (int likely : new int[] {-50, -1, 0, 1, 99, 100, 101, 150}) {
                ThoughtTax x = Kit.told("man a 999 0;thought a 9 0 0;thought a 8 0 0;reader r 9 15;seed " + seed * 1601
                    + ";law read (worth=9)*(" + (likely + 50) + "-50)+(worth=8)*50;");
                x.weeks(4);
                boolean draws = likely > 0 && likely < 100;
                KIT.due("seed " + seed * 1601 + ", " + likely + " then 50", x.thought(1, 6), 50 > (draws ? second : first) ? 1 : 0);
                KIT.due("seed " + seed * 1601 + ", " + likely, x.thought(0, 6), draws ? likely > first ? 1 : 0 : likely > 0 ? 1 : 0);
            }
            ThoughtTax other = Kit.told("man a 999 0;thought a 9 0 1;thought a 8 0 0;reader r 5 1;seed " + seed * 1601 + ";");
            other.weeks(4);
            KIT.due("a tongue that isn't known takes none", other.thought(1, 6), 50 > first ? 1 : 0);
        }
    }

    private static void numbersWithoutWhatIsAbove31Bits() {
        for (int seed : new int[] {0, 1, 2, 12345, 65535, 65536, 99998, 99999}) {
            ThoughtTax x = Kit.told("man a 999 0;thought a 5 0 0;reader r 9 15;law read 50;law due 1;seed " + seed + ";" + LONG_HELD);
            long[] last = {seed};
            int paid = 0;
            for (int visit = 0; visit < 25; visit++) {
                x.weeks(4);
                paid += 50 > Kit.draw(last) % 100 ? 1 : 0;
                KIT.due("seed " + seed + ", visit " + visit, x.count(8), paid);
            }
        }
    }

    private static void readIsKeptWithinAHundred() {
        String[] laws = {"0-9999", "0-1", "0", "1", "99", "100", "101", "9999", "9999*9999*9999"};
        int[] due = {0, 0, 0, 1, 99, 100, 100, 100, 100};
        for (int i = 0; i < laws.length; i++) {
            ThoughtTax x = Kit.told("man a 999 0;thought a 5 0 0;reader r 3 15;law read " + laws[i] + ";");
            x.weeks(1);
            KIT.due("law read " + laws[i], x.likely(0), due[i]);
        }
    }

    private static int likelyOf(int skill, int wiles, int dull, String law) {
        ThoughtTax x = Kit.told("man a 99 " + wiles + ";thought a 5 0 0;reader r " + skill + " 15;dull 1;" + law);
        x.weeks(1);
        if (dull > 0) {
            x.buy(0, dull);
        }
        return x.likely(0);
    }

    private static void readWithoutALaw() {
        for (String law : new String[] {"", "law read 1/0;", "law read 9999*9999*9999*9999;", "law due 7;law hide 7;"}) {
            KIT.due("skill 9" + law, likelyOf(9, 0, 0, law), 90);
            KIT.due("skill 0" + law, likelyOf(0, 0, 0, law), 0);
            KIT.due("skill 1" + law, likelyOf(1, 0, 0, law), 10);
            KIT.due("skill 5, wiles 9" + law, likelyOf(5, 9, 0, law), 5);
            KIT.due("skill 9, wiles 9" + law, likelyOf(9, 9, 0, law), 45);
            KIT.due("skill 4, wiles 8: 0" + law, likelyOf(4, 8, 0, law), 0);
            KIT.due("skill 4, wiles 9: not below 0" + law, likelyOf(4, 9, 0, law), 0);
            KIT.due("skill 9, dull 8" + law, likelyOf(9, 0, 8, law), 10);
            KIT.due("skill 9, dull 9" + law, likelyOf(9, 0, 9, law), 0);
            KIT.due("skill 9, wiles 1, dull 1" + law, likelyOf(9, 1, 1, law), 75);
        }
    }

    private static void tongues() {
        for (int tongues = 0; tongues <= 15; tongues++) {
            ThoughtTax x = Kit.told("man a 99 0;thought a 5 0 0;thought a 6 0 1;thought a 7 0 2;thought a 8 0 3;reader r 9 "
                + tongues + ";law read 100;");
            x.weeks(4);
            for (int tongue = 0; tongue <= 3; tongue++) {
                KIT.due("tongue " + tongue + " of " + tongues, x.thought(tongue, 6), tongues >> tongue & 1);
            }
        }
    }

    private static void byDoorsAndNumbers() {
        for (int seed = 0; seed < 50; seed++) {
            ThoughtTax x = Kit.told("man a 99 0;man b 99 0;thought b 5 0 0;thought a 6 0 0;thought b 7 0 0;thought a 8 0 0;"
                + "reader r 9 1;law read 50;seed " + seed * 1999 + ";");
            x.weeks(4);
            long[] last = {seed * 1999};
            for (int thought : new int[] {1, 3, 0, 2}) {
                KIT.due("seed " + seed * 1999 + ", thought " + thought, x.thought(thought, 6), 50 > Kit.draw(last) % 100 ? 1 : 0);
            }
        }
    }

    private static ThoughtTax visited(String lines) {
        ThoughtTax x = Kit.told(lines);
        x.weeks(4);
        return x;
    }

    private static void dueIsKeptWithin() {
        String[] laws = {"0-9999", "0-1", "0", "1", "998", "999", "1000", "9999*9999"};
        int[] due = {0, 0, 0, 1, 998, 999, 999, 999};
        for (int i = 0; i < laws.length; i++) {
            ThoughtTax x = visited("man a 999 0;thought a 5 0 0;reader r 9 1;law read 100;law due " + laws[i] + ";");
            KIT.due("law due " + laws[i] + ": paid", x.man(0, 2), due[i]);
            KIT.due("law due " + laws[i] + ": owed", x.man(0, 3), 0);
            KIT.due("law due " + laws[i] + ": the purse", x.man(0, 0), 999 - due[i]);
        }
    }

    private static void dueWithoutALaw() {
        for (String law : new String[] {"", "law due 1/0;", "law due 9999*9999*9999*9999;"}) {
            int[][] cases = {{99, 100, 99}, {1, 100, 1}, {1, 99, 0}, {50, 2, 1}, {49, 2, 0}, {99, 0, 0}, {99, 1, 0}, {99, 99, 98}};
            for (int[] one : cases) {
                ThoughtTax x = visited("man a 999 0;thought a " + one[0] + " 0 0;reader r 9 1;law read 100;rate " + one[1] + ";" + law);
                KIT.due(one[0] + " times " + one[1] + " by 100, cut " + law, x.man(0, 2), one[2]);
            }
        }
        ThoughtTax best = visited("man a 999 0;thought a 40 0 0;thought a 90 0 1;thought a 60 0 0;thought a 50 0 0;reader r 9 1;law read 100;rate 100;");
        KIT.due("by the best that is read, not in sum, not of those that aren't", best.man(0, 2), 60);
    }

    private static void nothingIfNoneWasRead() {
        ThoughtTax x = visited("man a 999 0;man b 999 0;thought a 40 0 0;reader r 9 1;law read 0;law due 7;");
        KIT.due("none was read", x.man(0, 2), 0);
        KIT.due("nothing is there", x.man(1, 2), 0);
        ThoughtTax least = visited("man a 999 0;thought a 1 0 0;reader r 9 1;law read 100;law due 7;");
        KIT.due("the least worth was read", least.man(0, 2), 7);
        ThoughtTax tongue = visited("man a 999 0;thought a 99 0 1;reader r 9 1;law read 100;law due 7;");
        KIT.due("a tongue that isn't known", tongue.man(0, 2), 0);
    }

    private static void asMuchAsThePurseHas() {
        int[][] cases = {{0, 0, 40}, {1, 1, 39}, {39, 39, 1}, {40, 40, 0}, {41, 40, 0}};
        for (int[] one : cases) {
            ThoughtTax x = visited("man a " + one[0] + " 0;thought a 40 0 0;reader r 9 1;law read 100;rate 100;");
            KIT.due("a purse of " + one[0] + ": paid", x.man(0, 2), one[1]);
            KIT.due("a purse of " + one[0] + ": owed", x.man(0, 3), one[2]);
            KIT.due("a purse of " + one[0] + ": what it has then", x.man(0, 0), one[0] - one[1]);
            KIT.due("a purse of " + one[0] + ": who owes", x.debtor(), one[2] > 0 ? 0 : -2);
        }
        ThoughtTax x = Kit.told("man a 999 0;thought a 40 0 0;reader r 9 1;law read 100;law due 999;" + LONG_HELD);
        for (int visit = 1; visit <= 24; visit++) {
            x.weeks(4);
            KIT.due("paid so far " + visit, x.man(0, 2), 999);
            KIT.due("owed so far " + visit, x.man(0, 3), 999 * (visit - 1));
        }
    }

    private static void dullOnesAreGone() {
        ThoughtTax x = Kit.told("man a 99 0;man b 99 0;thought a 40 0 0;reader r 0 0;dull 1;");
        x.buy(0, 9);
        x.buy(1, 1);
        x.weeks(3);
        KIT.due("no visit yet", x.man(0, 4) * 10 + x.man(1, 4), 91);
        x.weeks(1);
        KIT.due("visited, though nothing was read", x.man(0, 4), 0);
        KIT.due("visited, though nothing is held there", x.man(1, 4), 0);
        x.buy(0, 9);
        KIT.due("nine anew", x.man(0, 4), 9);
        ThoughtTax alone = Kit.told("man a 99 0;thought a 40 0 0;dull 1;");
        alone.buy(0, 9);
        alone.weeks(99);
        KIT.due("nobody visits", alone.man(0, 4), 9);
        ThoughtTax there = Kit.told("man a 99 0;man b 99 0;thought a 40 0 0;thought b 40 0 0;reader r 9 1;dull 1;law read 100;law due 10+dulled;");
        there.buy(0, 3);
        there.buy(1, 5);
        there.weeks(4);
        KIT.due("there while it is due, at the first door", there.man(0, 2), 13);
        KIT.due("there while it is due, at the second door", there.man(1, 2), 15);
    }

    private static void heldFor(String what, ThoughtTax x, int weeks) {
        x.weeks(weeks);
        x.weeks(1);
        KIT.due(what + ": held for " + weeks, x.thought(0, 4), 1);
        x.weeks(1);
        KIT.due(what + ": gone for more", x.thought(0, 4), 2);
        KIT.due(what + ": how many are gone", x.count(7), 1);
    }

    private static void hideIsKeptWithin() {
        String[] laws = {"0-9999", "0-1", "0", "1", "2", "98", "99", "100", "9999"};
        int[] due = {0, 0, 0, 1, 2, 98, 99, 99, 99};
        for (int i = 0; i < laws.length; i++) {
            heldFor("law hide " + laws[i], Kit.told("man a 99 0;thought a 40 0 0;law hide " + laws[i] + ";"), due[i]);
        }
    }

    private static void hideWithoutALaw() {
        for (String law : new String[] {"", "law hide 1/0;", "law hide 0-9999*9999*9999*9999;"}) {
            for (int wiles = 0; wiles <= 9; wiles++) {
                heldFor("wiles " + wiles + law, Kit.told("man a 99 " + wiles + ";thought a 40 0 0;" + law), 8 + wiles);
            }
        }
        for (int wiles = 0; wiles <= 9; wiles += 3) {
            ThoughtTax x = Kit.told("man a 99 0;man b 99 " + wiles + ";thought a 40 0 0;");
            x.weeks(9);
            KIT.due("hidden in the last week", x.hide(0, 1), true);
            x.weeks(wiles);
            KIT.due("wiles " + wiles + " of who holds it", x.thought(0, 4), 1);
            x.weeks(1);
            KIT.due("gone by wiles " + wiles + " of who holds it", x.thought(0, 4), 2);
        }
    }

    private static void goneByNumbers() {
        ThoughtTax x = Kit.told("man a 99 0;thought a 40 0 0;thought a 41 0 0;thought a 42 0 0;law hide 4-there;");
        x.weeks(2);
        KIT.due("three there: held for one week", x.count(6), 3);
        x.weeks(1);
        KIT.due("held for two weeks: the first one is gone", x.thought(0, 4), 2);
        KIT.due("two are there then", x.count(6), 2);
        x.weeks(1);
        KIT.due("held for three weeks: the second one is gone", x.thought(1, 4), 2);
        KIT.due("one is there then", x.thought(2, 4), 1);
        x.weeks(1);
        KIT.due("nothing there", x.count(6), 0);
    }

    private static void names() {
        String street = "man a 30 2;man b 40 3;thought a 50 0 0;thought a 60 0 0;thought b 70 0 0;reader r 4 15;reader s 6 15;dull 1;";
        String[] names = {"worth", "skill", "purse", "wiles", "dulled", "there", "week"};
        int[] read = {50, 4, 28, 2, 2, 2, 1};
        int[] due = {60, 4, 28, 2, 2, 2, 1};
        int[] hide = {50, 0, 28, 2, 2, 2, 1};
        int[] hidden = {50, 6, 40, 3, 0, 2, 1};
        int[] hiddenHide = {50, 0, 40, 3, 0, 2, 1};
        int[] dueWithout = {60, 4, 28, 2, 2, 1, 1};
        for (int i = 0; i < names.length; i++) {
            ThoughtTax x = Kit.told(street + "law read " + names[i] + ";law due " + names[i] + ";law hide " + names[i] + ";");
            x.weeks(1);
            x.buy(0, 2);
            KIT.due(names[i] + " of read", x.law(0, 0), read[i]);
            KIT.due(names[i] + " of due", x.law(1, 0), due[i]);
            KIT.due(names[i] + " of hide", x.law(2, 0), hide[i]);
            x.hide(0, 1);
            KIT.due(names[i] + " of read, hidden", x.law(0, 0), hidden[i]);
            KIT.due(names[i] + " of hide, hidden", x.law(2, 0), hiddenHide[i]);
            KIT.due(names[i] + " of due, without it", x.law(1, 0), dueWithout[i]);
        }
        ThoughtTax late = Kit.told("man a 30 2;law due week;");
        late.weeks(99);
        KIT.due("week 99", late.law(1, 0), 99);
    }

    private static void values() {
        String[] zeros = {"0", "(1-1)", "(1<0)", "0/9", "1/2", "(0-1)/2"};
        for (String zero : zeros) {
            KIT.due("not " + zero, Kit.worked("not " + zero), 1);
            KIT.due(zero + " or " + zero, Kit.worked(zero + " or " + zero), 0);
            KIT.due(zero + " and 1", Kit.worked(zero + " and 1"), 0);
            KIT.due("1 and " + zero, Kit.worked("1 and " + zero), 0);
        }
        String[] ones = {"1", "2", "9999", "(0-1)", "(0-9999)", "(1<2)"};
        for (String one : ones) {
            KIT.due("not " + one, Kit.worked("not " + one), 0);
            KIT.due("0 or " + one, Kit.worked("0 or " + one), 1);
            KIT.due(one + " or 0", Kit.worked(one + " or 0"), 1);
            KIT.due(one + " and " + one, Kit.worked(one + " and " + one), 1);
        }
        String[] signs = {"<", "<=", "=", "<>", ">=", ">"};
        int[][] due = {{1, 0, 0}, {1, 1, 0}, {0, 1, 0}, {1, 0, 1}, {0, 1, 1}, {0, 0, 1}};
        for (int i = 0; i < signs.length; i++) {
            for (int right = 4; right <= 6; right++) {
                KIT.due("5" + signs[i] + right, Kit.worked("5" + signs[i] + right), due[i][6 - right]);
                KIT.due("0-5" + signs[i] + "0-" + (10 - right), Kit.worked("0-5" + signs[i] + "0-" + (10 - right)), due[i][6 - right]);
            }
        }
        int[][] cut = {{7, 2, 3}, {-7, 2, -3}, {7, -2, -3}, {-7, -2, 3}, {1, 2, 0}, {-1, 2, 0}, {0, 5, 0}, {9999, 1, 9999}, {6, -3, -2}};
        for (int[] one : cut) {
            String text = "(0+" + text(one[0]) + ")/" + text(one[1]);
            KIT.due(text, Kit.worked(text), one[2]);
        }
    }

    private static final String[] SIGNS = {"or", "and", "<", "<=", "=", "<>", ">=", ">", "+", "-", "*", "/"};
    private static final int[] BINDS = {1, 2, 3, 3, 3, 3, 3, 3, 4, 4, 5, 5};

    private static long joined(int sign, long left, long right) {
        switch (sign) {
            case 0: return left != 0 || right != 0 ? 1 : 0;
            case 1: return left != 0 && right != 0 ? 1 : 0;
            case 2: return left < right ? 1 : 0;
            case 3: return left <= right ? 1 : 0;
            case 4: return left == right ? 1 : 0;
            case 5: return left != right ? 1 : 0;
            case 6: return left >= right ? 1 : 0;
            case 7: return left > right ? 1 : 0;
            case 8: return left + right;
            case 9: return left - right;
            case 10: return left * right;
            default: return right == 0 || left == NO_LAW || right == NO_LAW ? NO_LAW : left / right;
        }
    }

    /** Each two signs one behind another, and each behind not, in '(' and without. */
    private static void whatBindsMore() {
        int[][] rows = {{7, 2, 3}, {0, 2, 5}, {1, 0, 7}, {3, 3, 1}, {9, 4, 2}, {0, 0, 1}, {1, 1, 0}};
        for (int one = 0; one < SIGNS.length; one++) {
            for (int other = 0; other < SIGNS.length; other++) {
                for (int[] row : rows) {
                    boolean first = BINDS[one] >= BINDS[other];
                    long inner = first ? joined(one, row[0], row[1]) : joined(other, row[1], row[2]);
                    long want = inner == NO_LAW ? NO_LAW : first ? joined(other, inner, row[2]) : joined(one, row[0], inner);
                    String text = row[0] + " " + SIGNS[one] + " " + row[1] + " " + SIGNS[other] + " " + row[2];
                    boolean isTwice = BINDS[one] == 3 && BINDS[other] == 3;
                    if (!isTwice) {
                        KIT.due(text, Kit.worked(text), want);
                        KIT.due("5+(" + text + ")*2", Kit.worked("5+(" + text + ")*2"), want == NO_LAW ? NO_LAW : 5 + want * 2);
                    }
                    String left = "(" + row[0] + " " + SIGNS[one] + " " + row[1] + ") " + SIGNS[other] + " " + row[2];
                    long within = joined(one, row[0], row[1]);
                    KIT.due(left, Kit.worked(left), within == NO_LAW ? NO_LAW : joined(other, within, row[2]));
                    String right = row[0] + " " + SIGNS[one] + " (" + row[1] + " " + SIGNS[other] + " " + row[2] + ")";
                    long behind = joined(other, row[1], row[2]);
                    KIT.due(right, Kit.worked(right), behind == NO_LAW ? NO_LAW : joined(one, row[0], behind));
                }
            }
            for (int[] row : rows) {
                String text = "not " + row[0] + " " + SIGNS[one] + " " + row[1];
                long all = joined(one, row[0], row[1]);
                long want = BINDS[one] > 2 ? all == NO_LAW ? NO_LAW : all == 0 ? 1 : 0 : joined(one, row[0] == 0 ? 1 : 0, row[1]);
                KIT.due(text, Kit.worked(text), want);
            }
        }
    }

    private static String text(int value) {
        return value < 0 ? "(0-" + -value + ")" : String.valueOf(value);
    }

    private static void errors() {
        String most = "1000*1000*1000*1000";
        String[] fine = {most, "0-" + most, most + "-1+1", "0-" + most + "+1-1", "1*(" + most + ")", "(0-1)*(" + most + ")",
            "(" + most + ")/(0-1)", "(" + most + ")*0+5", "(0-1000*1000)*(0-1000*1000)", "2*(" + most + "/2)", "1000*1000*1000*999+9999"};
        long[] due = {TRILLION, -TRILLION, TRILLION, -TRILLION, TRILLION, -TRILLION, -TRILLION, 5, TRILLION, TRILLION, 999000009999L};
        for (int i = 0; i < fine.length; i++) {
            KIT.due(fine[i], Kit.worked(fine[i]), due[i]);
        }
        String[] wrong = {most + "+1", "0-" + most + "-1", "1-(0-" + most + ")", most + "+1-1", "0*(" + most + "+1)", most + "*2/2",
            "(0-" + most + ")*2", "(" + most + ")*(" + most + ")", "(0-" + most + ")*(" + most + ")", "(0-" + most + ")*(0-" + most + ")",
            "2*(" + most + "/2+1)", "3*(" + most + "/3+1)", "1/0", "0/0", "1/(1-1)", "1/(1<0)", "1/(not 1)",
            "0*(1/0)", "1 or 1/0", "1/0 or 1", "0 and 1/0", "1/0 and 0", "not (1/0)", "1<1/0", "1/0=1/0", "(1/0<>0)+5",
            "(4096*4096*4096*8)*(4096*4096*4096)", "(4096*4096*4096)*(4096*4096*256)*0"};
        for (String text : wrong) {
            KIT.due(text, Kit.worked(text), NO_LAW);
        }
        KIT.due("0/1", Kit.worked("0/1"), 0);
        KIT.due("1/(0-1)", Kit.worked("1/(0-1)"), -1);
    }

    private static void asItGoes() {
        for (int likely : new int[] {0, 1, 49, 50, 51, 99, 100}) {
            ThoughtTax x = Kit.told("man a 99 0;thought a 40 0 0;reader r 1 1;law due 7;law read " + likely + ";");
            KIT.due(likely + " of a hundred as it goes", x.ahead(4, 0), likely >= 50 ? 7 : 0);
        }
        ThoughtTax x = Kit.told("man a 999 0;thought a 40 0 0;reader r 1 1;law due 1;law read 50;seed 3;" + LONG_HELD);
        ThoughtTax y = Kit.told("man a 999 0;thought a 40 0 0;reader r 1 1;law due 1;law read 50;seed 3;" + LONG_HELD);
        for (int visit = 0; visit < 20; visit++) {
            x.ahead(99, 0);
            x.chance(7, 9, 1);
            x.weeks(4);
            y.weeks(4);
            KIT.due("no numbers are taken by what is asked", x.count(8), y.count(8));
        }
    }

    /** 0: nothing, 1: IndexOutOfBoundsException, 2: NoSuchElementException, 3: another one. */
    private static int thrown(ThoughtTax x, int thought, int what) {
        try {
            x.thought(thought, what);
            return 0;
        } catch (RuntimeException e) {
            return e.getClass() == IndexOutOfBoundsException.class ? 1 : e.getClass() == NoSuchElementException.class ? 2 : 3;
        }
    }

    private static void thought() {
        for (int thought : new int[] {0, 3}) {
            for (int what : new int[] {0, 6}) {
                KIT.stays("thought(" + thought + ", " + what + ")", x -> thrown(x, thought, what), 0);
            }
        }
        for (int thought : new int[] {-1, 4, 12, Kit.LEAST, Kit.MOST}) {
            for (int what : new int[] {0, 6, -1, 7}) {
                KIT.stays("thought(" + thought + ", " + what + ")", x -> thrown(x, thought, what), 1);
            }
        }
        for (int what : new int[] {-1, 7, Kit.LEAST, Kit.MOST}) {
            KIT.stays("thought(3, " + what + ")", x -> thrown(x, 3, what), 2);
        }
        KIT.due("the twelfth", thrown(Kit.told("man a 1 1;" + "thought a 1 1 1;".repeat(12)), 11, 0), 0);
        KIT.due("a thirteenth", thrown(Kit.told("man a 1 1;" + "thought a 1 1 1;".repeat(12)), 12, 0), 1);
        KIT.due("none at first", thrown(new ThoughtTax(), 0, 0), 1);
    }

    private static void man() {
        int[] due = {12, 9, 0, 0, 0, 1};
        ThoughtTax x = Kit.told("man a 1 1;man b 12 9;reader r 1 1;reader s 1 1;");
        for (int what = 0; what <= 5; what++) {
            KIT.due("man(1, " + what + ")", x.man(1, what), due[what]);
        }
        for (int man : new int[] {-1, 3, 6, Kit.LEAST, Kit.MOST}) {
            KIT.stays("man(" + man + ", 0)", y -> y.man(man, 0), -1);
        }
        for (int what : new int[] {-1, 6, Kit.LEAST, Kit.MOST}) {
            KIT.stays("man(2, " + what + ")", y -> y.man(2, what), -1);
        }
        KIT.due("a sixth one", Kit.told("man a 1 1;man b 1 1;man c 1 1;man d 1 1;man e 1 1;man f 8 1;").man(5, 0), 8);
        KIT.due("none at first", new ThoughtTax().man(0, 0), -1);
        KIT.due("nobody visits", Kit.told("man a 1 1;").man(0, 5), -1);
    }

    private static void reader() {
        for (int reader : new int[] {-1, 2, 4, Kit.LEAST, Kit.MOST}) {
            KIT.stays("reader(" + reader + ", 0)", x -> x.reader(reader, 0), -1);
        }
        for (int what : new int[] {-1, 2, Kit.LEAST, Kit.MOST}) {
            KIT.stays("reader(1, " + what + ")", x -> x.reader(1, what), -1);
        }
        KIT.stays("reader(1, 0)", x -> x.reader(1, 0), 5);
        KIT.stays("reader(1, 1)", x -> x.reader(1, 1), 15);
        KIT.due("none at first", new ThoughtTax().reader(0, 0), -1);
    }

    private static ThoughtTax lawful() {
        ThoughtTax x = Kit.told("man a 30 2;man b 40 3;thought a 50 0 0;thought b 60 9 0;thought a 70 0 0;thought b 9 0 0;reader r 4 15;"
            + "law read 100+skill;law due worth-200;law hide 2*(worth>9)-week*0;");
        x.weeks(2);
        return x;
    }

    private static void law() {
        KIT.stays("read, not kept within", EdgesWeeksTest::lawful, x -> x.law(0, 0), 104);
        KIT.stays("due, not kept within", EdgesWeeksTest::lawful, x -> x.law(1, 0), -130);
        KIT.stays("due, nothing held there", EdgesWeeksTest::lawful, x -> x.law(1, 1), -200);
        KIT.stays("hide", EdgesWeeksTest::lawful, x -> x.law(2, 2), 2);
        KIT.stays("read of what is to come", EdgesWeeksTest::lawful, x -> x.law(0, 1), NO_LAW);
        KIT.stays("read of what is gone", EdgesWeeksTest::lawful, x -> x.law(0, 3), NO_LAW);
        KIT.stays("hide of what is to come", EdgesWeeksTest::lawful, x -> x.law(2, 1), NO_LAW);
        KIT.stays("hide of what is gone", EdgesWeeksTest::lawful, x -> x.law(2, 3), NO_LAW);
        for (int what : new int[] {-1, 3, Kit.LEAST, Kit.MOST}) {
            KIT.stays("law(" + what + ", 0)", EdgesWeeksTest::lawful, x -> x.law(what, 0), NO_LAW);
        }
        for (int which : new int[] {-1, 4, 12, Kit.LEAST, Kit.MOST}) {
            KIT.stays("law(0, " + which + ")", EdgesWeeksTest::lawful, x -> x.law(0, which), NO_LAW);
            KIT.stays("law(2, " + which + ")", EdgesWeeksTest::lawful, x -> x.law(2, which), NO_LAW);
        }
        for (int which : new int[] {-1, 2, 6, Kit.LEAST, Kit.MOST}) {
            KIT.stays("law(1, " + which + ")", EdgesWeeksTest::lawful, x -> x.law(1, which), NO_LAW);
        }
        ThoughtTax alone = Kit.told("man a 30 2;thought a 50 0 0;law read skill+7;law due skill+worth;");
        alone.weeks(1);
        KIT.due("skill 0 without a reader", alone.law(0, 0), 7);
        KIT.due("due without a reader", alone.law(1, 0), 50);
        KIT.due("hide that isn't told", alone.law(2, 0), NO_LAW);
        ThoughtTax untold = Kit.told("man a 30 2;thought a 50 0 0;law hide 1/0;");
        untold.weeks(1);
        KIT.due("read that isn't told", untold.law(0, 0), NO_LAW);
        KIT.due("due that isn't told", untold.law(1, 0), NO_LAW);
        KIT.due("an error", untold.law(2, 0), NO_LAW);
    }

    private static void hide() {
        KIT.stays("hide in who holds it", x -> x.hide(0, 1) ? 1 : 0, 0);
        KIT.stays("hide in whose it is and who holds it", x -> x.hide(1, 0) ? 1 : 0, 0);
        for (int thought : new int[] {-1, 4, 12, Kit.LEAST, Kit.MOST}) {
            KIT.stays("hide(" + thought + ", 0)", x -> x.hide(thought, 0) ? 1 : 0, 0);
        }
        for (int man : new int[] {-1, 3, 6, Kit.LEAST, Kit.MOST}) {
            KIT.stays("hide(0, " + man + ")", x -> x.hide(0, man) ? 1 : 0, 0);
        }
        KIT.stays("hide what is to come", () -> Kit.told(Kit.STREET), x -> x.hide(0, 1) ? 1 : 0, 0);
        KIT.stays("hide what is gone", EdgesWeeksTest::lawful, x -> x.hide(3, 0) ? 1 : 0, 0);
        ThoughtTax x = Kit.busy();
        KIT.due("hide in the last one", x.hide(3, 0), true);
        KIT.due("who holds it", x.thought(3, 5), 0);
        KIT.due("back to whose it is", x.hide(3, 2), true);
        KIT.due("nothing of it is hidden", x.hidden() & 8, 0);
        KIT.due("from another to another", x.hide(0, 2), true);
        KIT.due("who holds that", x.holds(2) & 1, 1);
    }

    private static ThoughtTax shop() {
        return Kit.told("man a 99 0;man b 19 0;man c 20 0;reader r 1 1;dull 4;");
    }

    private static void buy() {
        for (int many : new int[] {0, -1, 10, Kit.LEAST, Kit.MOST}) {
            KIT.stays("buy(0, " + many + ")", EdgesWeeksTest::shop, x -> x.buy(0, many), -1);
        }
        for (int man : new int[] {-1, 3, 6, Kit.LEAST, Kit.MOST}) {
            KIT.stays("buy(" + man + ", 1)", EdgesWeeksTest::shop, x -> x.buy(man, 1), -1);
        }
        KIT.stays("five of 19", EdgesWeeksTest::shop, x -> x.buy(1, 5), -2);
        ThoughtTax x = shop();
        KIT.due("five of 20", x.buy(2, 5), 5);
        KIT.due("nothing is left", x.man(2, 0), 0);
        KIT.due("one of nothing", x.buy(2, 1), -2);
        KIT.due("one", x.buy(0, 1), 1);
        KIT.due("up to nine there", x.buy(0, 8), 9);
        KIT.due("the purse", x.man(0, 0), 99 - 36);
        KIT.due("nine at once", shop().buy(0, 9), 9);
        KIT.stays("a tenth", () -> {
            ThoughtTax y = shop();
            y.buy(0, 9);
            return y;
        }, y -> y.buy(0, 1), -1);
        KIT.stays("nine and one there", () -> {
            ThoughtTax y = shop();
            y.buy(0, 1);
            return y;
        }, y -> y.buy(0, 9), -1);
        KIT.stays("too many there and too dear", () -> {
            ThoughtTax y = shop();
            y.buy(2, 5);
            return y;
        }, y -> y.buy(2, 5), -1);
    }

    private static void round() {
        KIT.stays("the reader that it is", x -> x.round(2, 1) ? 1 : 0, 0);
        for (int man : new int[] {-1, 3, 6, Kit.LEAST, Kit.MOST}) {
            KIT.stays("round(" + man + ", 0)", x -> x.round(man, 0) ? 1 : 0, 0);
        }
        for (int reader : new int[] {-1, 2, 4, Kit.LEAST, Kit.MOST}) {
            KIT.stays("round(0, " + reader + ")", x -> x.round(0, reader) ? 1 : 0, 0);
        }
        KIT.stays("without readers", () -> Kit.told("man a 1 1;"), x -> x.round(0, 0) ? 1 : 0, 0);
        KIT.stays("nobody without readers", () -> Kit.told("man a 1 1;"), x -> x.round(0, -1) ? 1 : 0, 0);
        ThoughtTax x = Kit.told("man a 99 0;man b 99 0;thought a 50 0 1;thought b 50 0 1;reader r 9 1;reader s 9 2;law read 100;");
        KIT.due("the first one's", x.round(0, 1), true);
        KIT.due("the last one's", x.round(1, 0), true);
        x.weeks(4);
        KIT.due("from now on", x.thought(0, 6) * 10 + x.thought(1, 6), 10);
        KIT.due("it lasts", x.man(0, 5) * 10 + x.man(1, 5), 10);
    }

    private static void rate() {
        KIT.stays("the rate that it is", x -> x.rate(61) ? 1 : 0, 0);
        for (int rate : new int[] {-1, 101, Kit.LEAST, Kit.MOST}) {
            KIT.stays("rate(" + rate + ")", x -> x.rate(rate) ? 1 : 0, 0);
        }
        for (int rate : new int[] {0, 1, 99, 100}) {
            ThoughtTax x = Kit.told("man a 999 0;thought a 99 0 0;reader r 9 1;law read 100;");
            KIT.due("rate(" + rate + ")", x.rate(rate), true);
            KIT.due("rate(" + rate + ") again", x.rate(rate), false);
            KIT.due("the rate " + rate, x.count(5), rate);
            x.weeks(4);
            KIT.due("paid by " + rate, x.man(0, 2), 99 * rate / 100);
        }
        KIT.stays("20 at first", ThoughtTax::new, x -> x.rate(20) ? 1 : 0, 0);
    }

    private static ThoughtTax farOn(int week) {
        ThoughtTax x = Kit.told("man a 999 0;reader r 1 1;");
        for (int i = 0; i < week / 99; i++) {
            x.weeks(99);
        }
        x.weeks(week % 99);
        return x;
    }

    private static void weeks() {
        for (int n : new int[] {-1, 100, Kit.LEAST, Kit.MOST}) {
            KIT.stays("weeks(" + n + ")", x -> x.weeks(n), -1);
        }
        KIT.stays("weeks(0)", x -> x.weeks(0), 7);
        KIT.due("weeks(99)", Kit.busy().weeks(99), 106);
        KIT.due("weeks(1)", Kit.busy().weeks(1), 8);
        KIT.due("up to 9900 by 99", farOn(9801).weeks(99), 9900);
        KIT.due("up to 9900 by 1", farOn(9899).weeks(1), 9900);
        KIT.due("no week at 9900", farOn(9900).weeks(0), 9900);
        for (int n : new int[] {1, 2, 99, Kit.MOST}) {
            ThoughtTax x = farOn(9900);
            x.rate(7);
            KIT.due("behind 9900 by " + n, x.weeks(n), -1);
            KIT.due("none does", x.count(4), 9900);
            KIT.due("none went by", x.undo(), 0);
        }
        KIT.due("behind 9900 by 99", farOn(9802).weeks(99), -1);
        ThoughtTax x = farOn(9802);
        x.weeks(99);
        KIT.due("none of them does", x.count(4), 9802);
    }
}
