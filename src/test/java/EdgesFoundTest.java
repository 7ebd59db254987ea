/** The edges that promises 35 to 38 name: what was found, strikes, what is known, skills. */
public final class EdgesFoundTest {
    private static final Kit KIT = new Kit("EdgesFoundTest");
    private static final int ALL = 1023;
    private static final int NOT_READ = 0b0000011111;
    private static final int READ = 0b1111100000;

    public static void main(String[] args) {
        find();
        findByWeeks();
        strike();
        twentyFour();
        strikesOfStrikes();
        known();
        knownByTheFirst();
        skills();
        skillsAtTheirEdges();
        fromTheTextOn();
        KIT.end();
    }

    private static ThoughtTax street() {
        return Kit.told(Kit.STREET);
    }

    /** So many that every skill agrees with: nobody is visited within three weeks. */
    private static ThoughtTax found(int many) {
        ThoughtTax x = street();
        for (int i = 0; i < many; i++) {
            x.find(1 + i % 3, i % 4, false);
        }
        return x;
    }

    private static void find() {
        for (int weeks : new int[] {0, -1, 41, Kit.LEAST, Kit.MOST}) {
            KIT.stays("find(" + weeks + ", 0, true)", x -> x.find(weeks, 0, true), -1);
        }
        for (int thought : new int[] {-1, 4, 12, Kit.LEAST, Kit.MOST}) {
            KIT.stays("find(1, " + thought + ", true)", x -> x.find(1, thought, true), -1);
        }
        KIT.stays("nothing to find at first", ThoughtTax::new, x -> x.find(1, 0, true), -1);
        ThoughtTax x = street();
        KIT.due("numbered from 0 on", x.find(1, 0, true), 0);
        KIT.due("behind 40 weeks, the last thought", x.find(40, 3, false), 1);
        KIT.due("the same once more", x.find(40, 3, false), 2);
        KIT.due("the contrary, too", x.find(40, 3, true), 3);
        KIT.due("found", x.count(10), 4);
        KIT.due("nothing to undo by it", x.count(12), 0);
        KIT.due("ahead of its week", x.find(1, 3, true), 4);
    }

    private static void findByWeeks() {
        String text = "man a 9 0;thought a 5 39 0;thought a 5 0 0;reader r 1 1;law read skill*10;law hide 99;";
        for (int weeks : new int[] {1, 3, 4, 39, 40}) {
            ThoughtTax late = Kit.told(text);
            late.find(weeks, 0, true);
            KIT.due("of week 39, read behind " + weeks, late.skills(0), weeks < 40 ? 0 : READ);
            ThoughtTax early = Kit.told(text);
            early.find(weeks, 1, true);
            KIT.due("of week 0, read behind " + weeks, early.skills(0), weeks < 4 ? 0 : READ);
            ThoughtTax never = Kit.told(text);
            never.find(weeks, 0, false);
            KIT.due("of week 39, not read behind " + weeks, never.skills(0), weeks < 40 ? ALL : NOT_READ);
        }
        ThoughtTax once = Kit.told("man a 9 0;thought a 5 0 0;reader r 1 1;law read skill*10*(week<4);law hide 5;");
        once.find(40, 0, true);
        KIT.due("read once at least, though gone", once.skills(0), READ);
    }

    private static void strike() {
        for (int found : new int[] {-1, 3, 24, Kit.LEAST, Kit.MOST}) {
            KIT.stays("strike(" + found + ")", x -> x.strike(found), -1);
        }
        KIT.stays("nothing to strike at first", ThoughtTax::new, x -> x.strike(0), -1);
        ThoughtTax x = Kit.busy();
        KIT.due("the last one, a strike", x.strike(2), 3);
        KIT.due("the first one", x.strike(0), 4);
        KIT.due("one again", x.strike(0), 5);
        KIT.due("found", x.count(10), 6);
        KIT.due("nothing more to undo by it", x.count(12), 4);
    }

    private static void twentyFour() {
        KIT.due("the 24th by find", found(23).find(1, 0, true), 23);
        KIT.due("the 24th by strike", found(23).strike(22), 23);
        KIT.stays("a 25th by find", () -> found(24), x -> x.find(1, 0, true), -1);
        KIT.stays("a 25th by strike", () -> found(24), x -> x.strike(23), -1);
        ThoughtTax x = found(23);
        x.strike(0);
        KIT.due("a strike of the first makes no room", x.find(1, 0, true), -1);
        KIT.due("24 found", x.count(10), 24);
        KIT.due("known by 24", x.known(24), true);
        KIT.due("known by 25", x.known(25), false);
        Kit.tell(x, Kit.STREET);
        KIT.due("none found behind a text", x.find(1, 0, true), 0);
        ThoughtTax last = found(23);
        last.find(4, 0, true);
        KIT.due("the 24th counts", last.skills(0), READ);
        last.known(23);
        KIT.due("without the 24th", last.skills(0), ALL);
        ThoughtTax struck = found(22);
        struck.find(4, 0, true);
        KIT.due("by the 23rd", struck.skills(0), READ);
        struck.strike(22);
        KIT.due("struck by the 24th", struck.skills(0), ALL);
    }

    private static void strikesOfStrikes() {
        ThoughtTax x = street();
        x.find(4, 0, true);
        int[] due = {ALL, READ};
        for (int i = 0; i < 23; i++) {
            KIT.due("a strike of " + i, x.strike(i), i + 1);
            KIT.due("struck by a row of " + (i + 1), x.skills(0), due[i % 2]);
        }
        for (int n = 24; n >= 1; n--) {
            x.known(n);
            KIT.due("known by " + n, x.skills(0), n % 2 == 1 ? READ : ALL);
        }
        ThoughtTax twice = street();
        twice.find(4, 0, true);
        twice.strike(0);
        twice.strike(0);
        KIT.due("struck twice", twice.skills(0), ALL);
        twice.strike(2);
        KIT.due("one strike is left", twice.skills(0), ALL);
        twice.strike(1);
        KIT.due("none is left", twice.skills(0), READ);
        twice.strike(4);
        KIT.due("a strike counts again", twice.skills(0), ALL);
    }

    private static void known() {
        for (int n : new int[] {-2, 4, 24, Kit.LEAST, Kit.MOST}) {
            KIT.stays("known(" + n + ")", x -> x.known(n) ? 1 : 0, 0);
        }
        for (int n = -1; n <= 3; n++) {
            ThoughtTax x = Kit.busy();
            KIT.due("known(" + n + ")", x.known(n), true);
            KIT.due("known by " + n, x.count(11), n < 0 ? 3 : n);
            KIT.due("known(" + n + ") again", x.known(n), true);
            x.find(1, 0, false);
            KIT.due("known by " + n + " and one to come", x.count(11), n < 0 ? 4 : n);
        }
        ThoughtTax none = new ThoughtTax();
        KIT.due("by none of none", none.known(0), true);
        KIT.due("by all of none", none.known(-1), true);
        KIT.due("by one of none", none.known(1), false);
        ThoughtTax first = street();
        first.find(4, 0, true);
        KIT.due("all at first", first.skills(0), READ);
        KIT.due("by how many at first", first.count(11), 1);
    }

    private static void knownByTheFirst() {
        ThoughtTax x = street();
        x.find(4, 0, true);
        x.find(4, 2, true);
        x.strike(0);
        x.find(4, 0, false);
        int[] r = {ALL, READ, 0, 0, 0};
        int[] s = {ALL, ALL, 0b1110000000, 0b1110000000, 0};
        for (int n = 4; n >= 0; n--) {
            KIT.due("known(" + n + ")", x.known(n), true);
            KIT.due("r, known by " + n, x.skills(0), r[n]);
            KIT.due("s, known by " + n, x.skills(1), s[n]);
        }
        x.known(3);
        x.strike(3);
        KIT.due("a strike behind these isn't one of them", x.count(11), 3);
        x.known(-1);
        KIT.due("all: the second one alone is left", x.skills(1), 0b1110000000);
        KIT.due("all, those to come, too", x.count(11), 5);
    }

    private static void skills() {
        KIT.stays("skills(0)", EdgesFoundTest::street, x -> x.skills(0), ALL);
        KIT.stays("skills(1)", EdgesFoundTest::street, x -> x.skills(1), ALL);
        for (int reader : new int[] {-1, 2, 4, Kit.LEAST, Kit.MOST}) {
            KIT.stays("skills(" + reader + ")", x -> x.skills(reader), -1);
        }
        KIT.asks("skills(1) of a busy one", x -> x.skills(1));
        KIT.due("no reader at first", new ThoughtTax().skills(0), -1);
    }

    private static void skillsAtTheirEdges() {
        for (int least = 0; least <= 10; least++) {
            ThoughtTax x = Kit.told("man a 9 0;thought a 5 0 0;reader r 4 1;law read 50*(skill>=" + least + ");");
            x.find(4, 0, true);
            KIT.due("read by a skill of " + least + " at least", x.skills(0), ALL >> least << least);
            ThoughtTax y = Kit.told("man a 9 0;thought a 5 0 0;reader r 4 1;law read 50*(skill>=" + least + ");");
            y.find(4, 0, false);
            KIT.due("not read by a skill of " + least + " at least", y.skills(0), ALL & ~(ALL >> least << least));
        }
        ThoughtTax four = Kit.told("man a 9 0;man b 9 0;man c 9 0;man d 9 0;thought d 5 0 0;reader p 1 1;reader q 1 1;reader r 1 1;reader s 1 1;");
        four.find(4, 0, true);
        KIT.due("the fourth reader", four.skills(3), READ);
        KIT.due("another one in its own skill's place", four.skills(0), 0);
    }

    private static void fromTheTextOn() {
        ThoughtTax x = street();
        x.find(4, 0, true);
        x.round(0, 1);
        x.buy(0, 9);
        x.rate(1);
        KIT.due("nothing done by call counts", x.skills(0), READ);
        x.weeks(2);
        x.hide(0, 2);
        x.weeks(90);
        KIT.due("from the text on, whatever week it is", x.skills(0), READ);
        x.find(40, 1, true);
        KIT.due("found of what is gone by now", x.skills(0), READ);
        KIT.due("the week stays", x.count(4), 92);
    }
}
