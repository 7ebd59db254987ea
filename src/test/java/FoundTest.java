/** Promises 35 to 38: what was found, strikes, what is known, skills by it. */
public final class FoundTest {
    private static final Kit KIT = new Kit("FoundTest");

    public static void main(String[] args) {
        finding();
        skills();
        strikes();
        known();
        fromTheTextOn();
        twoReaders();
        KIT.end();
    }

    private static void finding() {
        ThoughtTax x = Kit.told(Kit.STREET);
        KIT.due("0 weeks", x.find(0, 0, true), -1);
        KIT.due("41 weeks", x.find(41, 0, true), -1);
        KIT.due("no such thought", x.find(1, 4, true), -1);
        KIT.due("below 0", x.find(1, -1, true), -1);
        KIT.due("a strike of nothing", x.strike(0), -1);
        KIT.due("the first", x.find(40, 3, false), 0);
        KIT.due("a strike of itself", x.strike(1), -1);
        KIT.due("a strike below 0", x.strike(-1), -1);
        KIT.due("a strike", x.strike(0), 1);
        for (int i = 2; i < 24; i++) {
            KIT.due("one more", i % 2 == 0 ? x.find(1, 0, false) : x.strike(i - 1), i);
        }
        KIT.due("a 25th", x.find(1, 0, false), -1);
        KIT.due("a strike as the 25th", x.strike(0), -1);
        KIT.due("found", x.count(10), 24);
        KIT.due("known by", x.count(11), 24);
    }

    private static void skills() {
        ThoughtTax x = Kit.told(Kit.STREET);
        KIT.due("nothing known", x.skills(0), 1023);
        KIT.due("no such reader", x.skills(2), -1);
        KIT.due("below 0", x.skills(-1), -1);
        x.find(3, 0, false);
        KIT.due("no visit by then", x.skills(0), 1023);
        x.find(4, 0, true);
        KIT.due("read by then", x.skills(0), 0b1111100000);
        x.find(40, 0, true);
        KIT.due("read once at least", x.skills(0), 0b1111100000);
        KIT.due("whatever the other one's skill", x.skills(1), 1023);
        x.find(8, 2, false);
        KIT.due("never by the other one", x.skills(1), 0b0001111111);
        KIT.due("as its own skill has it", x.skills(0), 0b1111100000);
        x.find(4, 0, false);
        KIT.due("both can't be", x.skills(0), 0);
        KIT.due("nor by the other one", x.skills(1), 0);
    }

    private static void strikes() {
        ThoughtTax x = Kit.told(Kit.STREET);
        x.find(4, 0, false);
        KIT.due("not read", x.skills(0), 0b0000011111);
        KIT.due("struck", x.strike(0), 1);
        KIT.due("as if it weren't", x.skills(0), 1023);
        KIT.due("the strike struck", x.strike(1), 2);
        KIT.due("it counts again", x.skills(0), 0b0000011111);
        KIT.due("that one struck", x.strike(2), 3);
        KIT.due("it doesn't count again", x.skills(0), 1023);
        KIT.due("struck twice", x.strike(0), 4);
        KIT.due("the one strike struck", x.strike(4), 5);
        KIT.due("the other one stands", x.skills(0), 1023);
    }

    private static void known() {
        ThoughtTax x = Kit.told(Kit.STREET);
        x.find(4, 0, false);
        x.strike(0);
        KIT.due("by one", x.known(1), true);
        KIT.due("the strike isn't known", x.skills(0), 0b0000011111);
        KIT.due("how many", x.count(11), 1);
        KIT.due("found", x.count(10), 2);
        KIT.due("by none", x.known(0), true);
        KIT.due("all skills", x.skills(0), 1023);
        KIT.due("by three of two", x.known(3), false);
        KIT.due("by -2", x.known(-2), false);
        KIT.due("it is as it was", x.count(11), 0);
        KIT.due("by two", x.known(2), true);
        x.find(4, 0, true);
        KIT.due("the third isn't known", x.skills(0), 1023);
        KIT.due("how many then", x.count(11), 2);
        KIT.due("by all", x.known(-1), true);
        KIT.due("the third is known", x.skills(0), 0b1111100000);
        x.strike(2);
        KIT.due("those to come, too", x.skills(0), 1023);
        KIT.due("how many by all", x.count(11), 4);
    }

    private static void fromTheTextOn() {
        ThoughtTax x = Kit.told(Kit.STREET);
        x.find(4, 0, true);
        x.weeks(1);
        x.hide(0, 1);
        x.buy(0, 9);
        x.round(0, 1);
        x.weeks(30);
        KIT.due("nothing done by call counts", x.skills(0), 0b1111100000);
        x.keep();
        x.find(4, 0, false);
        x.back();
        KIT.due("an image leaves what was found", x.count(10), 2);
    }

    private static void twoReaders() {
        ThoughtTax x = Kit.told("man a 9 0;man b 9 2;thought a 5 0 0;thought b 5 0 0;thought a 5 30 0;reader r 1 1;reader s 1 1;law read skill*10-wiles*5-week;");
        x.find(4, 0, true);
        KIT.due("skill*10-3 is 50 at least", x.skills(0), 0b1111000000);
        KIT.due("its own skill is 1", x.skills(1), 0);
        x.known(0);
        x.find(4, 1, false);
        x.strike(0);
        x.known(-1);
        KIT.due("of s", x.skills(1), 0b0001111111);
        x.find(40, 2, false);
        KIT.due("of r, late", x.skills(0), 0b0111111111);
    }
}
