import java.util.NoSuchElementException;

/** Promises 6 to 14: what is there now, laws, what is done by call, weeks. */
public final class WeeksTest {
    private static final Kit KIT = new Kit("WeeksTest");

    public static void main(String[] args) {
        thoughts();
        menAndReaders();
        values();
        lawsNow();
        hiding();
        buying();
        rounds();
        rates();
        weeks();
        lastWeek();
        readingByNumbers();
        whatIsDue();
        whatIsGone();
        KIT.end();
    }

    private static int thrown(ThoughtTax x, int thought, int what) {
        try {
            x.thought(thought, what);
            return 0;
        } catch (IndexOutOfBoundsException e) {
            return e.getClass() == IndexOutOfBoundsException.class ? 1 : 3;
        } catch (NoSuchElementException e) {
            return 2;
        }
    }

    private static void thoughts() {
        ThoughtTax x = Kit.told(Kit.STREET);
        int[] ahead = {0, 60, 1, 1, 0, -1, 0};
        int[] held = {0, 60, 1, 1, 1, 0, 0};
        for (int what = 0; what < 7; what++) {
            KIT.due("thought(1, " + what + ") to come", x.thought(1, what), ahead[what]);
        }
        x.weeks(2);
        for (int what = 0; what < 7; what++) {
            KIT.due("thought(1, " + what + ") held", x.thought(1, what), held[what]);
        }
        x.weeks(9);
        KIT.due("thought(1, 4) gone", x.thought(1, 4), 2);
        KIT.due("thought(1, 5) gone", x.thought(1, 5), -1);
        KIT.due("thought(2, 0)", x.thought(2, 0), 1);
        KIT.due("no such thought", thrown(x, 4, 0), 1);
        KIT.due("a thought below 0", thrown(x, -1, 0), 1);
        KIT.due("no such what", thrown(x, 3, 7), 2);
        KIT.due("a what below 0", thrown(x, 3, -1), 2);
        KIT.due("neither", thrown(x, 12, 7), 1);
        KIT.due("both there", thrown(x, 3, 6), 0);
        KIT.due("far beyond", thrown(x, Integer.MAX_VALUE, Integer.MIN_VALUE), 1);
    }

    private static void menAndReaders() {
        ThoughtTax x = Kit.told(Kit.STREET);
        int[] due = {50, 4, 0, 0, 0, 1};
        for (int what = 0; what < 6; what++) {
            KIT.due("man(1, " + what + ")", x.man(1, what), due[what]);
        }
        KIT.due("man(1, 6)", x.man(1, 6), -1);
        KIT.due("man(1, -1)", x.man(1, -1), -1);
        KIT.due("man(3, 0)", x.man(3, 0), -1);
        KIT.due("man(-1, 0)", x.man(-1, 0), -1);
        KIT.due("reader(0, 0)", x.reader(0, 0), 9);
        KIT.due("reader(0, 1)", x.reader(0, 1), 3);
        KIT.due("reader(1, 0)", x.reader(1, 0), 5);
        KIT.due("reader(1, 2)", x.reader(1, 2), -1);
        KIT.due("reader(1, -1)", x.reader(1, -1), -1);
        KIT.due("reader(2, 0)", x.reader(2, 0), -1);
        KIT.due("reader(-1, 0)", x.reader(-1, 0), -1);
        KIT.due("a round without readers", Kit.told("man a 1 1;").man(0, 5), -1);
        ThoughtTax late = Kit.told("man a 1 1;man b 1 1;man c 1 1;man d 1 1;man e 1 1;reader x 1 1;reader y 1 1;reader z 1 1;");
        int[] rounds = {0, 1, 2, 0, 1};
        for (int man = 0; man < 5; man++) {
            KIT.due("the round of " + man, late.man(man, 5), rounds[man]);
        }
    }

    private static void values() {
        long error = Long.MIN_VALUE;
        KIT.due("2+3*4", Kit.worked("2+3*4"), 14);
        KIT.due("(2+3)*4", Kit.worked("(2+3)*4"), 20);
        KIT.due("10-3-2", Kit.worked("10-3-2"), 5);
        KIT.due("100/7/2", Kit.worked("100/7/2"), 7);
        KIT.due("2*9/4", Kit.worked("2*9/4"), 4);
        KIT.due("(0-7)/2", Kit.worked("(0-7)/2"), -3);
        KIT.due("7/(0-2)", Kit.worked("7/(0-2)"), -3);
        KIT.due("1/0", Kit.worked("1/0"), error);
        KIT.due("1/(2<1)", Kit.worked("1/(2<1)"), error);
        KIT.due("1 or 1/0", Kit.worked("1 or 1/0"), error);
        KIT.due("0 and 1/0", Kit.worked("0 and 1/0"), error);
        KIT.due("not (1/0)", Kit.worked("not (1/0)"), error);
        KIT.due("1<2+1/0", Kit.worked("1<2+1/0"), error);
        KIT.due("5 and 0-2", Kit.worked("5 and 0-2"), 1);
        KIT.due("0 or 7", Kit.worked("0 or 7"), 1);
        KIT.due("0 or 0 and 1", Kit.worked("0 or 0 and 1"), 0);
        KIT.due("1 or 1 and 0", Kit.worked("1 or 1 and 0"), 1);
        KIT.due("not 1=2", Kit.worked("not 1=2"), 1);
        KIT.due("not 0 and 0", Kit.worked("not 0 and 0"), 0);
        KIT.due("not not 7", Kit.worked("not not 7"), 1);
        KIT.due("not 0 + 1", Kit.worked("not 0 + 1"), 0);
        KIT.due("(1<2)+(2<=2)+(3=3)+(1<>2)+(2>=2)+(3>2)", Kit.worked("(1<2)+(2<=2)+(3=3)+(1<>2)+(2>=2)+(3>2)"), 6);
        KIT.due("(2<1)+(3<=2)+(3=4)+(2<>2)+(1>=2)+(2>2)+(2<2)", Kit.worked("(2<1)+(3<=2)+(3=4)+(2<>2)+(1>=2)+(2>2)+(2<2)"), 0);
        KIT.due("1+2<4", Kit.worked("1+2<4"), 1);
        KIT.due("ten to the twelve", Kit.worked("1000*1000*1000*1000"), 1000000000000L);
        KIT.due("one above it", Kit.worked("1000*1000*1000*1000+1"), error);
        KIT.due("below 0 by it", Kit.worked("0-1000*1000*1000*1000"), -1000000000000L);
        KIT.due("below it", Kit.worked("0-1000*1000*1000*1000-1"), error);
        KIT.due("a product beyond it", Kit.worked("1000*1000*1000*1001"), error);
        KIT.due("a product beyond a long", Kit.worked("(1000*1000*1000*1000)*(1000*1000*1000*1000)"), error);
        KIT.due("a product that wraps to 0", Kit.worked("(4096*4096*4096*8)*(4096*4096*4096)*0"), error);
        KIT.due("a negative product", Kit.worked("(0-1000*1000)*(1000*1000)"), -1000000000000L);
        KIT.due("a negative product beyond it", Kit.worked("(0-1000*1000)*(1000*1000+1)"), error);
        KIT.due("0 times the most", Kit.worked("0*(1000*1000*1000*1000)"), 0);
        KIT.due("the most times 0", Kit.worked("(1000*1000*1000*1000)*0"), 0);
        KIT.due("an error that would come back", Kit.worked("1000*1000*1000*1000+1-1"), error);
        KIT.due("as many nots as there can be", Kit.worked("not ".repeat(63) + "9"), 0);
        KIT.due("one less, in eight '('", Kit.worked("((((((((" + "not ".repeat(62) + "9))))))))"), 1);
        KIT.due("all ranks waiting", Kit.worked("0 or 1 and not 2<3+4*(5 or 6 and not 7<8+9*1)"), 0);
        KIT.due("worth", Kit.worked("worth"), 50);
        KIT.due("skill", Kit.worked("skill"), 4);
        KIT.due("purse", Kit.worked("purse"), 30);
        KIT.due("wiles", Kit.worked("wiles"), 2);
        KIT.due("dulled", Kit.worked("dulled"), 0);
        KIT.due("there", Kit.worked("there"), 1);
        KIT.due("week", Kit.worked("week"), 1);
    }

    private static void lawsNow() {
        long none = Long.MIN_VALUE;
        String all = "worth*1000+skill*100+there*10+dulled";
        ThoughtTax x = Kit.told("man a 30 2;man b 8 3;thought a 50 0 1;thought a 70 0 1;thought a 90 9 0;reader r 4 0;dull 2;"
            + "law read " + all + ";law due " + all + ";law hide skill+purse*100+wiles*10;");
        KIT.due("read of what is to come", x.law(0, 0), none);
        KIT.due("due where nothing is held", x.law(1, 0), 400);
        x.weeks(1);
        x.buy(0, 3);
        KIT.due("read, whatever the tongue", x.law(0, 0), 50423);
        KIT.due("due, of the best that is held", x.law(1, 0), 70423);
        KIT.due("hide, with skill 0", x.law(2, 1), 2420);
        x.hide(1, 1);
        KIT.due("read of a hidden one", x.law(0, 1), 70410);
        KIT.due("hide of a hidden one", x.law(2, 1), 830);
        KIT.due("due by another's", x.law(1, 1), 70410);
        KIT.due("due by what is left", x.law(1, 0), 50413);
        KIT.due("read of no such thought", x.law(0, 3), none);
        KIT.due("read below 0", x.law(0, -1), none);
        KIT.due("due of no such man", x.law(1, 2), none);
        KIT.due("hide of one to come", x.law(2, 2), none);
        KIT.due("no such law", x.law(3, 0), none);
        KIT.due("a law below 0", x.law(-1, 0), none);
        ThoughtTax untold = Kit.told("man a 30 2;thought a 50 0 1;law due 1/0;");
        untold.weeks(1);
        KIT.due("read that isn't told", untold.law(0, 0), none);
        KIT.due("hide that isn't told", untold.law(2, 0), none);
        KIT.due("due with an error", untold.law(1, 0), none);
        ThoughtTax alone = Kit.told("man a 30 2;thought a 50 0 1;law read skill+1;law due skill-1;");
        alone.weeks(1);
        KIT.due("read without a reader", alone.law(0, 0), 1);
        KIT.due("due without a reader", alone.law(1, 0), -1);
    }

    private static void hiding() {
        ThoughtTax x = Kit.told(Kit.STREET);
        KIT.due("hiding what is to come", x.hide(0, 1), false);
        x.weeks(1);
        KIT.due("hiding in whose it is", x.hide(0, 0), false);
        KIT.due("hiding in nobody", x.hide(0, 3), false);
        KIT.due("hiding in one below 0", x.hide(0, -1), false);
        KIT.due("hiding no thought", x.hide(4, 1), false);
        KIT.due("hiding a thought below 0", x.hide(-1, 1), false);
        KIT.due("nothing to undo by that", x.count(12), 0);
        KIT.due("hiding", x.hide(0, 1), true);
        KIT.due("hiding again", x.hide(0, 1), false);
        KIT.due("who holds it", x.thought(0, 5), 1);
        KIT.due("whose it is", x.thought(0, 0), 0);
        KIT.due("coming back", x.hide(0, 0), true);
        KIT.due("who holds it then", x.thought(0, 5), 0);
        x.weeks(9);
        KIT.due("hiding what is gone", x.hide(0, 1), false);
    }

    private static void buying() {
        ThoughtTax x = Kit.told("man a 40 0;man b 99 0;reader r 9 15;thought a 50 0 0;dull 5;");
        KIT.due("none", x.buy(0, 0), -1);
        KIT.due("below 0", x.buy(0, -3), -1);
        KIT.due("ten", x.buy(0, 10), -1);
        KIT.due("by nobody", x.buy(2, 1), -1);
        KIT.due("by one below 0", x.buy(-1, 1), -1);
        KIT.due("nine, dearer than the purse", x.buy(0, 9), -2);
        KIT.due("three", x.buy(0, 3), 3);
        KIT.due("the purse", x.man(0, 0), 25);
        KIT.due("nothing is paid by that", x.man(0, 2), 0);
        KIT.due("more than nine there", x.buy(0, 7), -1);
        KIT.due("six, dearer than the purse", x.buy(0, 6), -2);
        KIT.due("five, all of the purse", x.buy(0, 5), 8);
        KIT.due("an empty purse", x.man(0, 0), 0);
        KIT.due("one more", x.buy(0, 1), -2);
        KIT.due("nine at once", x.buy(1, 9), 9);
        KIT.due("one above nine", x.buy(1, 1), -1);
        KIT.due("what was bought can be undone", x.count(12), 3);
        KIT.due("five by default", Kit.told("man a 4 0;").buy(0, 1), -2);
        x.weeks(3);
        KIT.due("dull ones in a week without a visit", x.man(0, 4), 8);
        x.weeks(1);
        KIT.due("dull ones gone by a visit", x.man(0, 4), 0);
        KIT.due("where nothing is held, too", x.man(1, 4), 0);
        ThoughtTax alone = Kit.told("man a 40 0;thought a 50 0 0;");
        alone.buy(0, 2);
        alone.weeks(8);
        KIT.due("dull ones where nobody visits", alone.man(0, 4), 2);
    }

    private static void rounds() {
        ThoughtTax x = Kit.told(Kit.STREET);
        KIT.due("the one it has", x.round(0, 0), false);
        KIT.due("no such reader", x.round(0, 2), false);
        KIT.due("no reader", x.round(0, -1), false);
        KIT.due("no such man", x.round(3, 0), false);
        KIT.due("a man below 0", x.round(-1, 0), false);
        KIT.due("another one", x.round(0, 1), true);
        KIT.due("that one", x.man(0, 5), 1);
        KIT.due("again", x.round(0, 1), false);
        KIT.due("without readers", Kit.told("man a 1 1;").round(0, 0), false);
    }

    private static void rates() {
        ThoughtTax x = Kit.told(Kit.STREET);
        KIT.due("as it is", x.rate(50), false);
        KIT.due("101", x.rate(101), false);
        KIT.due("-1", x.rate(-1), false);
        KIT.due("0", x.rate(0), true);
        KIT.due("it is 0", x.count(5), 0);
        KIT.due("100", x.rate(100), true);
        KIT.due("it is 100", x.count(5), 100);
        x.weeks(4);
        KIT.due("paid by it", x.man(0, 2), 60);
    }

    private static void weeks() {
        ThoughtTax x = Kit.told(Kit.STREET);
        KIT.due("-1", x.weeks(-1), -1);
        KIT.due("100", x.weeks(100), -1);
        KIT.due("none went by", x.count(4), 0);
        x.rate(9);
        KIT.due("0", x.weeks(0), 0);
        KIT.due("nothing had", x.count(6), 0);
        KIT.due("0 weeks leave what can be undone", x.count(12), 1);
        KIT.due("1", x.weeks(1), 1);
        KIT.due("one had", x.count(6), 1);
        KIT.due("a week leaves nothing to undo", x.count(12), 0);
        KIT.due("99", x.weeks(99), 100);
        ThoughtTax late = Kit.told("man a 9 0;thought a 1 99 0;");
        late.weeks(99);
        KIT.due("to come in week 99", late.count(6), 0);
        late.weeks(1);
        KIT.due("held behind week 99", late.count(6), 1);
    }

    private static void lastWeek() {
        ThoughtTax x = Kit.told("man a 9 0;");
        for (int i = 1; i <= 99; i++) {
            x.weeks(99);
        }
        KIT.due("far on", x.count(4), 9801);
        KIT.due("up to 9900", x.weeks(98), 9899);
        KIT.due("behind 9900", x.weeks(2), -1);
        KIT.due("none went by", x.count(4), 9899);
        KIT.due("9900", x.weeks(1), 9900);
        KIT.due("none at 9900", x.weeks(0), 9900);
        KIT.due("one behind 9900", x.weeks(1), -1);
        KIT.due("asked ahead of it all the same", x.ahead(99, 3), 0);
    }

    private static void readingByNumbers() {
        for (int seed = 0; seed < 40; seed++) {
            ThoughtTax x = Kit.told("man a 0 0;man b 0 3;thought b 9 0 0;thought a 5 0 1;thought a 7 0 2;thought b 2 0 0;"
                + "thought a 8 3 1;thought a 9 4 1;reader r 5 3;reader s 7 5;seed " + seed * 77 + ";");
            x.weeks(4);
            long number = seed * 77;
            int[] order = {1, 4, 0, 3};
            int[] chances = {50, 50, 55, 55};
            for (int i = 0; i < 4; i++) {
                number = (number * 1103515245L + 12345L) & 0x7fffffffL;
                KIT.due("seed " + seed + ", thought " + order[i], x.thought(order[i], 6), chances[i] > number / 65536 % 100 ? 1 : 0);
            }
            KIT.due("a tongue that isn't known", x.thought(2, 6), 0);
            KIT.due("one of the next week", x.thought(5, 6), 0);
        }
        for (int seed = 0; seed < 20; seed++) {
            ThoughtTax x = Kit.told("man a 0 0;thought a 1 0 0;thought a 2 0 0;thought a 50 0 0;thought a 4 0 0;reader r 9 15;"
                + "law read worth*60-60;seed " + seed * 1234 + ";");
            x.weeks(4);
            long number = (seed * 1234 * 1103515245L + 12345L) & 0x7fffffffL;
            KIT.due("0 draws no number and isn't read", x.thought(0, 6), 0);
            KIT.due("the first number", x.thought(1, 6), 60 > number / 65536 % 100 ? 1 : 0);
            KIT.due("100 is read", x.thought(2, 6), 1);
        }
    }

    private static void whatIsDue() {
        String street = "man a 30 0;thought a 50 0 0;thought a 99 0 1;reader r 9 1;law read 100;rate 77;";
        ThoughtTax x = Kit.told(street);
        x.weeks(4);
        KIT.due("by the best that is read, cut: paid", x.man(0, 2), 30);
        KIT.due("owed", x.man(0, 3), 8);
        KIT.due("the purse", x.man(0, 0), 0);
        x.weeks(4);
        KIT.due("owed more", x.man(0, 3), 46);
        KIT.due("paid by all", x.count(8), 30);
        KIT.due("owed by all", x.count(9), 46);
        x.weeks(4);
        KIT.due("nothing of what is gone", x.count(9), 46);
        int[] due = {999, 0, 38, 8};
        String[] laws = {"9999", "0-5", "1/0", "worth/6+dulled*0"};
        for (int i = 0; i < laws.length; i++) {
            ThoughtTax y = Kit.told(street + "law due " + laws[i] + ";");
            y.weeks(4);
            KIT.due("law due " + laws[i], y.man(0, 2) + y.man(0, 3), due[i]);
        }
        ThoughtTax unread = Kit.told("man a 30 0;thought a 50 0 0;reader r 9 1;law read 0;law due 20;");
        unread.weeks(4);
        KIT.due("nothing, if none was read", unread.man(0, 2), 0);
        ThoughtTax dulled = Kit.told("man a 30 0;thought a 50 0 0;reader r 9 1;law read 100;law due dulled*7+skill;dull 1;");
        dulled.buy(0, 2);
        dulled.weeks(4);
        KIT.due("dull ones are there yet, and a skill", dulled.man(0, 2), 23);
        ThoughtTax hidden = Kit.told("man a 30 0;man b 30 0;thought a 50 0 0;reader r 9 1;law read 100;");
        hidden.weeks(1);
        hidden.hide(0, 1);
        hidden.weeks(3);
        KIT.due("who holds it pays", hidden.man(1, 2), 10);
        KIT.due("whose it is doesn't", hidden.man(0, 2), 0);
        ThoughtTax error = Kit.told("man a 30 4;thought a 50 0 0;reader r 9 1;law read 1/0;");
        error.weeks(1);
        KIT.due("read with an error", error.likely(0), 70);
    }

    private static void whatIsGone() {
        for (int wiles = 0; wiles <= 9; wiles++) {
            ThoughtTax x = Kit.told("man a 30 " + wiles + ";thought a 50 2 0;");
            x.weeks(11 + wiles);
            KIT.due("8 and wiles: held", x.thought(0, 4), 1);
            x.weeks(1);
            KIT.due("8 and wiles: gone", x.thought(0, 4), 2);
        }
        ThoughtTax hidden = Kit.told("man a 30 0;man b 1 2;thought a 50 0 0;");
        hidden.weeks(9);
        hidden.hide(0, 1);
        hidden.weeks(2);
        KIT.due("by who holds it: held", hidden.thought(0, 4), 1);
        hidden.weeks(1);
        KIT.due("by who holds it: gone", hidden.thought(0, 4), 2);
        int[] longest = {0, 99, 9, 2};
        String[] laws = {"0-9", "5000", "1/0", "there+wiles+skill"};
        for (int i = 0; i < laws.length; i++) {
            ThoughtTax x = Kit.told("man a 30 1;thought a 50 0 0;reader r 9 0;law hide " + laws[i] + ";");
            x.weeks(longest[i]);
            x.weeks(1);
            KIT.due("law hide " + laws[i] + ": held", x.thought(0, 4), 1);
            x.weeks(1);
            KIT.due("law hide " + laws[i] + ": gone", x.thought(0, 4), 2);
        }
        ThoughtTax order = Kit.told("man a 30 1;thought a 50 0 0;thought a 50 0 0;law hide 3-there;");
        order.weeks(3);
        KIT.due("by numbers: the first is gone", order.thought(0, 4), 2);
        KIT.due("the second one is alone there then", order.thought(1, 4), 1);
    }
}
