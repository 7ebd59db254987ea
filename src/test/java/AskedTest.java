/** Promises 15 to 34, 39 and 40: what is asked, of now and ahead. Nothing that is asked changes anything. */
public final class AskedTest {
    private static final Kit KIT = new Kit("AskedTest");
    private static final int LEAST = Integer.MIN_VALUE;
    private static final int MOST = Integer.MAX_VALUE;

    public static void main(String[] args) {
        ahead();
        likely();
        bestRound();
        hideIn();
        bestRate();
        worthless();
        share();
        chain();
        rests();
        first();
        farthing();
        enough();
        vote();
        whose();
        debtor();
        nextRead();
        richest();
        holdsAndHidden();
        chance();
        tried();
        nothingChanges();
        KIT.end();
    }

    private static void ahead() {
        ThoughtTax x = Kit.told("man a 10 0;thought a 40 0 0;thought a 60 7 0;reader r 5 15;rate 50;");
        int[] paid = {0, 0, 0, 0, 10, 10, 10, 10, 10};
        int[] owed = {0, 0, 0, 0, 10, 10, 10, 10, 40};
        int[] held = {0, 1, 1, 1, 1, 1, 1, 1, 2};
        for (int n = 0; n <= 8; n++) {
            KIT.due("paid in " + n, x.ahead(n, 0), paid[n]);
            KIT.due("owed in " + n, x.ahead(n, 1), owed[n]);
            KIT.due("gone in " + n, x.ahead(n, 2), 0);
            KIT.due("held in " + n, x.ahead(n, 3), held[n]);
        }
        KIT.due("gone in 10", x.ahead(10, 2), 1);
        KIT.due("gone in 99", x.ahead(99, 2), 2);
        KIT.due("held in 99", x.ahead(99, 3), 0);
        x.weeks(10);
        KIT.due("gone more", x.ahead(99, 2), 1);
        KIT.due("100 weeks", x.ahead(100, 0), -1);
        KIT.due("-1 weeks", x.ahead(-1, 0), -1);
        KIT.due("what 4", x.ahead(1, 4), -1);
        KIT.due("what -1", x.ahead(1, -1), -1);
        KIT.due("49 of a hundred isn't read as it goes", Kit.told("man a 10 0;thought a 40 0 0;reader r 5 15;law read 49;").ahead(4, 0), 0);
        KIT.due("50 of a hundred is", Kit.told("man a 10 0;thought a 40 0 0;reader r 5 15;law read 50;").ahead(4, 0), 8);
    }

    private static void likely() {
        ThoughtTax x = Kit.told("man a 99 3;thought a 40 0 0;thought a 40 0 1;thought a 40 9 0;reader r 9 1;dull 1;");
        KIT.due("to come", x.likely(0), -2);
        x.weeks(1);
        KIT.due("by skill and wiles", x.likely(0), 75);
        KIT.due("a tongue that isn't known", x.likely(1), 0);
        KIT.due("to come yet", x.likely(2), -2);
        KIT.due("none such", x.likely(3), -1);
        KIT.due("below 0", x.likely(-1), -1);
        x.buy(0, 2);
        KIT.due("by dull ones", x.likely(0), 55);
        x.buy(0, 7);
        KIT.due("not below 0", x.likely(0), 0);
        x.weeks(9);
        KIT.due("held in week 10", x.likely(0), 75);
        x.weeks(3);
        KIT.due("gone", x.likely(0), -2);
        ThoughtTax alone = Kit.told("man a 99 3;thought a 40 0 0;law read 70;");
        alone.weeks(1);
        KIT.due("no reader", alone.likely(0), 0);
        ThoughtTax law = Kit.told("man a 99 3;thought a 40 0 0;thought a 99 0 0;reader r 9 1;law read worth*2;");
        law.weeks(1);
        KIT.due("by law", law.likely(0), 80);
        KIT.due("not above 100", law.likely(1), 100);
    }

    private static void bestRound() {
        ThoughtTax x = Kit.told("man a 9 0;man b 9 9;man c 9 0;man d 9 0;man e 9 0;thought a 50 0 0;thought b 60 1 1;thought d 70 1 2;"
            + "thought e 80 0 0;thought d 99 2 0;reader r 4 15;reader s 9 1;reader t 6 15;rate 100;");
        x.weeks(1);
        int[] due = {1, 0, 0, 2};
        for (int door = 0; door < 4; door++) {
            KIT.due("door " + door, x.bestRound(door), due[door]);
        }
        KIT.due("in all, the fifth door as it is (s)", x.bestRound(4), 50 + 70 + 80);
        x.round(4, 0);
        KIT.due("in all, the fifth door by r", x.bestRound(4), 50 + 70);
        KIT.due("what 5", x.bestRound(5), -1);
        KIT.due("what -1", x.bestRound(-1), -1);
        KIT.due("no readers", Kit.told("man a 1 1;").bestRound(0), -1);
        KIT.due("no readers, in all", Kit.told("man a 1 1;").bestRound(4), -1);
        KIT.due("no people", Kit.told("reader a 1 1;").bestRound(0), -2);
        KIT.due("no people, in all", Kit.told("reader a 1 1;").bestRound(4), 0);
        KIT.due("two doors", Kit.told("man a 1 1;man b 1 1;reader a 1 1;").bestRound(2), -2);
        KIT.due("nothing is due: the first", Kit.told("man a 1 1;reader a 1 1;reader b 9 1;").bestRound(0), 0);
        ThoughtTax law = Kit.told("man a 1 1;thought a 10 0 0;reader a 9 1;reader b 8 1;law due 10-skill;law read 99;");
        law.weeks(1);
        KIT.due("by law", law.bestRound(0), 1);
        KIT.due("by law, in all", law.bestRound(4), 2);
    }

    private static void hideIn() {
        ThoughtTax x = Kit.told(Kit.STREET);
        KIT.due("to come", x.hideIn(0, 0), -2);
        x.weeks(3);
        KIT.due("in whom", x.hideIn(1, 0), 1);
        KIT.due("paid and owed", x.hideIn(1, 1), 40);
        KIT.due("what 2", x.hideIn(1, 2), -1);
        KIT.due("what -1 of one to come", x.hideIn(3, -1), -1);
        KIT.due("no such thought", x.hideIn(4, 0), -1);
        KIT.due("below 0", x.hideIn(-1, 0), -1);
        ThoughtTax none = Kit.told("man a 10 0;man b 10 0;thought b 50 0 0;");
        none.weeks(1);
        KIT.due("the first of several", none.hideIn(0, 0), 0);
        KIT.due("nothing", none.hideIn(0, 1), 0);
        ThoughtTax owes = Kit.told("man a 0 0;man b 10 1;thought b 50 0 0;reader r 9 1;law read 60;rate 100;law due 20-wiles;");
        owes.weeks(1);
        KIT.due("what is owed counts", owes.hideIn(0, 0), 1);
        KIT.due("what is owed counts in all", owes.hideIn(0, 1), 38);
    }

    private static void bestRate() {
        ThoughtTax x = Kit.told(Kit.STREET);
        KIT.due("in 4: the rate", x.bestRate(4, 0), 100);
        KIT.due("in 4: paid", x.bestRate(4, 1), 60);
        KIT.due("in 8: the rate", x.bestRate(8, 0), 84);
        KIT.due("in 8: paid", x.bestRate(8, 1), 100);
        KIT.due("in 3: the first", x.bestRate(3, 0), 0);
        KIT.due("in 1: paid", x.bestRate(1, 1), 0);
        KIT.due("in 40", x.bestRate(40, 1), 100);
        KIT.due("in 0", x.bestRate(0, 0), -1);
        KIT.due("in 41", x.bestRate(41, 0), -1);
        KIT.due("what 2", x.bestRate(4, 2), -1);
        KIT.due("what -1", x.bestRate(4, -1), -1);
        ThoughtTax law = Kit.told("man a 100 0;thought a 40 0 0;reader r 9 15;law due 33;");
        KIT.due("by law no rate brings more", law.bestRate(4, 0), 0);
        KIT.due("by law", law.bestRate(4, 1), 33);
    }

    private static void worthless() {
        ThoughtTax x = Kit.told(Kit.STREET);
        KIT.due("at first", x.worthless(), 2);
        x.weeks(2);
        KIT.due("what is held is none", x.worthless(), 0);
        ThoughtTax y = Kit.told("man a 0 0;man b 5 0;thought b 9 3 0;thought a 40 0 0;thought a 41 19 0;thought a 42 20 0;thought a 30 0 0;reader r 9 15;rate 100;");
        KIT.due("owed counts, in 20 weeks", y.worthless(), 1 | 2 | 4);
        KIT.due("nobody thinks", Kit.told("man a 1 1;").worthless(), 0);
    }

    private static void share() {
        ThoughtTax x = Kit.told(Kit.STREET);
        KIT.due("the first one", x.share(0, 2, 0), 11);
        KIT.due("the second one", x.share(0, 2, 1), 9);
        KIT.due("the other way", x.share(2, 0, 0), 8);
        KIT.due("the other way, the second one", x.share(2, 0, 1), 12);
        x.rate(33);
        KIT.due("by the rate there is", x.share(3, 2, 0), 32 * 99 / 129);
        KIT.due("of one person", x.share(0, 1, 0), -1);
        KIT.due("one thought", x.share(2, 2, 0), -1);
        KIT.due("no such one", x.share(4, 0, 0), -1);
        KIT.due("no such other", x.share(0, 4, 0), -1);
        KIT.due("below 0", x.share(-1, 0, 0), -1);
        KIT.due("what 2", x.share(0, 2, 2), -1);
        KIT.due("what -1", x.share(0, 2, -1), -1);
        x.weeks(1);
        x.hide(0, 1);
        KIT.due("whose they are counts, not where", x.share(0, 2, 1), 13 - 13 * 40 / 70);
    }

    private static void chain() {
        ThoughtTax x = Kit.told("reader a 9 1;reader b 3 1;reader c 7 1;reader d 3 1;");
        KIT.due("none", x.chain(0), 100);
        KIT.due("a", x.chain(1), 90);
        KIT.due("a c", x.chain(5), 63);
        KIT.due("all, the least first", x.chain(15), 5);
        KIT.due("a b d", x.chain(11), 8);
        KIT.due("a fifth one", x.chain(16), -1);
        KIT.due("below 0", x.chain(-1), -1);
        KIT.due("the most", x.chain(MOST), -1);
        KIT.due("a skill of 0", Kit.told("reader a 0 1;reader b 9 1;").chain(3), 0);
        ThoughtTax cut = Kit.told("reader a 9 1;reader b 1 1;reader c 5 1;reader d 6 1;");
        KIT.due("cut each time", cut.chain(15), 2);
    }

    private static ThoughtTax holding(String worths, int rate) {
        StringBuilder b = new StringBuilder("man a 1 1;rate " + rate + ";");
        for (String worth : worths.split(" ")) {
            b.append("thought a ").append(worth).append(" 0 0;");
        }
        ThoughtTax x = Kit.told(b.toString());
        x.weeks(1);
        return x;
    }

    private static void rests() {
        ThoughtTax nothing = new ThoughtTax();
        KIT.due("nothing held", nothing.rests(), 1);
        KIT.due("nothing held: which", nothing.rest(0), 11);
        KIT.due("no second one", nothing.rest(1), -2);
        KIT.due("far beyond", nothing.rest(MOST), -2);
        KIT.due("below 0", nothing.rest(-1), -1);
        KIT.due("far below 0", nothing.rest(LEAST), -1);
        ThoughtTax much = holding("40 60 30", 50);
        KIT.due("much held", much.rests(), 1);
        KIT.due("much held: wool and looking well", much.rest(0), 0);
        // 8 of 16 read: looking well is worth 4 more at 50 of a hundred, wool saves 4 and costs 5.
        ThoughtTax some = holding("16", 50);
        KIT.due("some held", some.rests(), 1);
        KIT.due("some held: no wool, looking well", some.rest(0), 10);
        ThoughtTax even = holding("10", 100);
        KIT.due("wool costs what it saves", even.rests(), 2);
        KIT.due("the first", even.rest(0), 0);
        KIT.due("the second", even.rest(1), 10);
        KIT.due("no third one", even.rest(2), -2);
        ThoughtTax three = holding("6", 100);
        KIT.due("looking well costs what it brings", three.rests(), 2);
        KIT.due("of these the first", three.rest(0), 10);
        KIT.due("of these the second", three.rest(1), 11);
        // The halves are cut: 3 of 7, but 4 more for all: no rest is left out by that.
        ThoughtTax odd = holding("7", 100);
        KIT.due("halves are cut", odd.rests(), 1);
        KIT.due("halves are cut: which", odd.rest(0), 10);
    }

    private static void first() {
        ThoughtTax x = Kit.told("man a 1 0;man b 1 0;man c 1 0;thought a 60 0 0;thought b 30 0 0;thought b 31 0 0;thought c 61 1 0;");
        KIT.due("nothing held", x.first(), -2);
        x.weeks(1);
        KIT.due("most in sum", x.first(), 1);
        x.hide(1, 2);
        KIT.due("held there", x.first(), 0);
        x.weeks(1);
        KIT.due("another one", x.first(), 2);
        x.undo();
        x.hide(1, 1);
        KIT.due("the first of several", x.first(), 1);
        ThoughtTax least = Kit.told("man a 1 0;man b 1 0;thought b 1 0 0;");
        least.weeks(1);
        KIT.due("the least worth", least.first(), 1);
        KIT.due("no people", Kit.told("reader a 1 1;").first(), -1);
    }

    private static void farthing() {
        ThoughtTax x = new ThoughtTax();
        for (int worth = 1; worth <= 99; worth++) {
            int rate = x.farthing(worth);
            KIT.due("farthing " + worth, rate >= 1 && rate <= 100 && worth * rate / 100 >= 1 && worth * (rate - 1) / 100 == 0, true);
        }
        KIT.due("50", x.farthing(50), 2);
        KIT.due("51", x.farthing(51), 2);
        KIT.due("49", x.farthing(49), 3);
        KIT.due("0", x.farthing(0), -1);
        KIT.due("100", x.farthing(100), -1);
        KIT.due("-1", x.farthing(-1), -1);
    }

    private static void enough() {
        ThoughtTax x = Kit.told("man a 99 0;man b 9 9;thought a 1 0 0;thought a 1 0 1;reader r 9 1;dull 1;");
        KIT.due("nothing held", x.enough(0), 0);
        x.weeks(1);
        KIT.due("five", x.enough(0), 5);
        x.buy(0, 2);
        KIT.due("three more", x.enough(0), 3);
        x.buy(0, 7);
        KIT.due("no more", x.enough(0), 0);
        KIT.due("another one", x.enough(1), 0);
        KIT.due("none such", x.enough(2), -1);
        KIT.due("below 0", x.enough(-1), -1);
        ThoughtTax law = Kit.told("man a 99 0;thought a 1 0 0;reader r 9 1;dull 1;law read 94-dulled*5;");
        law.weeks(1);
        KIT.due("nine at most: just so", law.enough(0), 9);
        ThoughtTax never = Kit.told("man a 99 0;thought a 1 0 0;reader r 9 1;dull 1;law read 95-dulled*5;");
        never.weeks(1);
        KIT.due("by no so many", never.enough(0), -2);
        never.buy(0, 9);
        KIT.due("by no so many, nine there", never.enough(0), -2);
        ThoughtTax alone = Kit.told("man a 99 0;thought a 1 0 0;law read 99;");
        alone.weeks(1);
        KIT.due("nobody visits", alone.enough(0), 0);
    }

    private static void vote() {
        ThoughtTax x = Kit.told("man a 10 0;man b 99 0;man c 5 0;thought a 40 0 0;thought b 60 0 0;reader r 9 15;rate 50;");
        KIT.due("less: for it", x.vote(4, 49, 0), 2);
        KIT.due("less: against it", x.vote(4, 49, 1), 0);
        KIT.due("more: for it", x.vote(4, 60, 0), 0);
        KIT.due("more: against it, by what is owed too", x.vote(4, 60, 1), 2);
        KIT.due("one more by 60 alone", x.vote(4, 52, 1), 1);
        KIT.due("as it is", x.vote(4, 50, 1), 0);
        KIT.due("in 3", x.vote(3, 0, 0), 0);
        KIT.due("in 1", x.vote(1, 0, 0), 0);
        KIT.due("rate 100", x.vote(4, 100, 1), 2);
        KIT.due("in 40", x.vote(40, 0, 0), 2);
        KIT.due("in 0", x.vote(0, 0, 0), -1);
        KIT.due("in 41", x.vote(41, 0, 0), -1);
        KIT.due("rate 101", x.vote(4, 101, 0), -1);
        KIT.due("rate -1", x.vote(4, -1, 0), -1);
        KIT.due("what 2", x.vote(4, 0, 2), -1);
        KIT.due("what -1", x.vote(4, 0, -1), -1);
    }

    private static void whose() {
        ThoughtTax x = Kit.told("man a 1 0;man b 1 0;man c 1 0;thought a 60 0 1;thought b 60 0 1;thought c 60 0 2;thought c 60 5 1;");
        KIT.due("to come", x.whose(60, 1), 0);
        x.weeks(1);
        KIT.due("two of them", x.whose(60, 1), 3);
        KIT.due("by tongue", x.whose(60, 2), 4);
        KIT.due("by worth", x.whose(61, 1), 0);
        KIT.due("the least of both", x.whose(1, 0), 0);
        KIT.due("the most of both", x.whose(99, 3), 0);
        x.hide(0, 2);
        KIT.due("who holds it", x.whose(60, 1), 6);
        KIT.due("worth 0", x.whose(0, 1), -1);
        KIT.due("worth 100", x.whose(100, 1), -1);
        KIT.due("tongue 4", x.whose(60, 4), -1);
        KIT.due("tongue -1", x.whose(60, -1), -1);
    }

    private static void debtor() {
        ThoughtTax x = Kit.told("man a 99 0;man b 5 0;man c 5 0;man d 6 0;thought a 50 0 0;thought b 50 0 0;thought c 50 0 0;thought d 50 0 0;reader r 9 15;law read 100;");
        KIT.due("nobody", x.debtor(), -2);
        x.weeks(4);
        KIT.due("the first of several", x.debtor(), 1);
        ThoughtTax one = Kit.told("man a 99 0;man b 9 0;thought b 50 0 0;reader r 9 15;law read 100;");
        one.weeks(4);
        KIT.due("one is owed", one.debtor(), 1);
        KIT.due("no people", new ThoughtTax().debtor(), -2);
    }

    private static void nextRead() {
        ThoughtTax x = Kit.told("man a 99 0;man b 1 9;thought a 50 0 0;thought a 50 4 0;thought b 1 0 0;thought a 9 99 0;reader r 9 15;law read 90-wiles*9;");
        KIT.due("in week 3", x.nextRead(0), 4);
        KIT.due("in week 7", x.nextRead(1), 8);
        KIT.due("never", x.nextRead(2), -2);
        KIT.due("not by then", x.nextRead(3), -2);
        KIT.due("none such", x.nextRead(4), -1);
        KIT.due("below 0", x.nextRead(-1), -1);
        x.weeks(1);
        KIT.due("in week 99, the 99th from now", x.nextRead(3), 99);
        x.weeks(2);
        KIT.due("this week", x.nextRead(0), 1);
        x.weeks(1);
        KIT.due("again, from now on", x.nextRead(0), 4);
        x.weeks(21);
        KIT.due("gone", x.nextRead(0), -2);
    }

    private static void richest() {
        ThoughtTax x = Kit.told("man a 9 0;man b 50 0;man c 50 0;man d 45 0;thought b 50 0 0;thought c 50 4 0;reader r 9 15;");
        KIT.due("now, the first of several", x.richest(0), 1);
        KIT.due("in 3", x.richest(3), 1);
        KIT.due("in 4", x.richest(4), 2);
        KIT.due("in 8", x.richest(8), 3);
        KIT.due("in 99", x.richest(99), 3);
        KIT.due("in 100", x.richest(100), -1);
        KIT.due("in -1", x.richest(-1), -1);
        KIT.due("nobody", new ThoughtTax().richest(0), -1);
    }

    private static void holdsAndHidden() {
        ThoughtTax x = Kit.told("man a 9 0;man b 50 0;thought b 50 0 0;thought a 50 0 0;thought b 9 1 0;");
        KIT.due("nothing", x.holds(1), 0);
        KIT.due("nobody", x.holds(2), -1);
        KIT.due("below 0", x.holds(-1), -1);
        x.weeks(2);
        KIT.due("two", x.holds(1), 5);
        KIT.due("none hidden", x.hidden(), 0);
        x.hide(2, 0);
        x.hide(1, 1);
        KIT.due("a", x.holds(0), 4);
        KIT.due("b", x.holds(1), 3);
        KIT.due("hidden", x.hidden(), 6);
        x.hide(1, 0);
        KIT.due("one came back", x.hidden(), 4);
        x.weeks(20);
        KIT.due("gone: a", x.holds(0), 0);
        KIT.due("gone: hidden", x.hidden(), 0);
    }

    private static void chance() {
        ThoughtTax x = Kit.told("man a 500 0;thought a 50 0 0;thought a 40 3 0;reader r 5 15;rate 100;law hide 99;");
        long number = 12345;
        int most = 0;
        int some = 0;
        for (int time = 0; time < 10; time++) {
            int best = 0;
            for (int worth : new int[] {50, 40}) {
                number = (number * 1103515245L + 12345L) & 0x7fffffffL;
                best = Math.max(best, 50 > number / 65536 % 100 ? worth : 0);
            }
            most += best >= 50 ? 1 : 0;
            some += best >= 1 ? 1 : 0;
        }
        KIT.due("50 at least", x.chance(12345, 4, 50), most);
        KIT.due("50 at least in 7", x.chance(12345, 7, 50), most);
        KIT.due("1 at least", x.chance(12345, 4, 1), some);
        KIT.due("0 at least", x.chance(12345, 4, 0), 10);
        KIT.due("51 at least", x.chance(12345, 4, 51), 0);
        KIT.due("in 3", x.chance(12345, 3, 1), 0);
        KIT.due("the greatest seed", x.chance(MOST, 99, 999), 0);
        KIT.due("the least seed, in 1", x.chance(0, 1, 0), 10);
        KIT.due("a seed below 0", x.chance(-1, 4, 1), -1);
        KIT.due("0 weeks", x.chance(1, 0, 1), -1);
        KIT.due("100 weeks", x.chance(1, 100, 1), -1);
        KIT.due("-1 paid", x.chance(1, 4, -1), -1);
        KIT.due("1000 paid", x.chance(1, 4, 1000), -1);
    }

    private static void tried() {
        ThoughtTax x = Kit.told("man a 500 6;man b 500 0;thought a 50 0 0;thought b 40 0 3;thought b 20 0 0;thought b 10 4 0;reader r 7 7;rate 100;dull 1;");
        KIT.due("as it goes", x.ahead(4, 0), 20);
        KIT.due("no wiles", x.tried(0, 0, 4), 70);
        KIT.due("no dull ones", x.tried(1, 0, 4), 20);
        KIT.due("b thinks nothing", x.tried(2, 1, 4), 0);
        KIT.due("a thinks nothing", x.tried(2, 0, 4), 20);
        KIT.due("all tongues", x.tried(3, 0, 4), 40);
        KIT.due("all skill", x.tried(4, 0, 4), 70);
        x.weeks(1);
        x.buy(1, 9);
        KIT.due("as it goes with dull ones", x.ahead(4, 0), 0);
        KIT.due("without them", x.tried(1, 0, 4), 20);
        KIT.due("what is held is kept", x.tried(2, 1, 9), 20);
        KIT.due("0 weeks", x.tried(4, 0, 0), 0);
        KIT.due("-1 weeks", x.tried(4, 0, -1), -1);
        KIT.due("100 weeks", x.tried(4, 0, 100), -1);
        KIT.due("what 5", x.tried(5, 0, 4), -1);
        KIT.due("what -1", x.tried(-1, 0, 4), -1);
        KIT.due("i 1 of 4", x.tried(4, 1, 4), -1);
        KIT.due("i -1 of 0", x.tried(0, -1, 4), -1);
        KIT.due("no such person", x.tried(2, 2, 4), -1);
        KIT.due("a person below 0", x.tried(2, -1, 4), -1);
    }

    private static void nothingChanges() {
        ThoughtTax x = Kit.told(Kit.STREET + "law read 60;");
        ThoughtTax y = Kit.told(Kit.STREET + "law read 60;");
        for (int week = 0; week < 12; week++) {
            ask(x);
            x.weeks(1);
            y.weeks(1);
            // What an object answers behind its 512th call is free, so not each week is looked at.
            if (week % 4 != 3) {
                continue;
            }
            for (int man = 0; man < 3; man++) {
                for (int what = 0; what < 6; what++) {
                    KIT.due("week " + week + ", man(" + man + ", " + what + ")", x.man(man, what), y.man(man, what));
                }
            }
            for (int thought = 0; thought < 4; thought++) {
                for (int what = 0; what < 7; what++) {
                    KIT.due("week " + week + ", thought(" + thought + ", " + what + ")", x.thought(thought, what), y.thought(thought, what));
                }
            }
        }
    }

    private static void ask(ThoughtTax x) {
        x.ahead(30, 0);
        x.bestRound(4);
        x.bestRate(9, 0);
        x.worthless();
        x.hideIn(0, 0);
        x.enough(0);
        x.vote(9, 90, 0);
        x.nextRead(1);
        x.richest(9);
        x.skills(0);
        x.chance(7, 9, 9);
        x.tried(0, 0, 9);
        x.tried(3, 0, 9);
        x.tried(4, 0, 9);
        x.rest(0);
        x.law(0, 0);
    }
}
