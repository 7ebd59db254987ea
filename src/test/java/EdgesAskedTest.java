/** The edges that part 3 and promises 15 to 34, 39 and 40 name: what is asked, of now and ahead. */
public final class EdgesAskedTest {
    private static final Kit KIT = new Kit("EdgesAskedTest");
    private static final String READ = "reader r 9 15;law read 100;law hide 99;";

    public static void main(String[] args) {
        ahead();
        aheadOfTheLastWeek();
        likely();
        bestRound();
        bestRoundsDoors();
        hideIn();
        hideInTwelveWeeks();
        bestRate();
        worthless();
        worthlessInTwentyWeeks();
        share();
        chain();
        rests();
        restsOfAllRates();
        first();
        farthing();
        enough();
        vote();
        whose();
        debtor();
        nextRead();
        richest();
        holds();
        hidden();
        chance();
        chanceByNumbers();
        tried();
        triedOtherwise();
        triedJustSo();
        asItGoes();
        KIT.end();
    }

    private static ThoughtTax in(int weeks, String text) {
        ThoughtTax x = Kit.told(text);
        x.weeks(weeks);
        return x;
    }

    private static void ahead() {
        for (int what = 0; what <= 3; what++) {
            int one = what;
            KIT.asks("ahead(0, " + one + ")", x -> x.ahead(0, one));
            KIT.asks("ahead(99, " + one + ")", x -> x.ahead(99, one));
            for (int n : new int[] {-1, 100, Kit.LEAST, Kit.MOST}) {
                KIT.stays("ahead(" + n + ", " + one + ")", x -> x.ahead(n, one), -1);
            }
        }
        for (int what : new int[] {-1, 4, Kit.LEAST, Kit.MOST}) {
            KIT.stays("ahead(1, " + what + ")", x -> x.ahead(1, what), -1);
        }
        ThoughtTax x = Kit.told("man a 9 0;thought a 50 0 0;thought a 60 3 0;thought a 70 99 0;reader r 9 15;law read 100;law due 5;law hide 2;");
        int[] paid = {0, 0, 0, 0, 5, 5, 5, 5, 5};
        int[] gone = {0, 0, 0, 0, 1, 1, 1, 2, 2};
        int[] held = {0, 1, 1, 1, 1, 1, 1, 0, 0};
        for (int n = 0; n < paid.length; n++) {
            KIT.due("paid in " + n, x.ahead(n, 0), paid[n]);
            KIT.due("owed in " + n, x.ahead(n, 1), 0);
            KIT.due("gone in " + n, x.ahead(n, 2), gone[n]);
            KIT.due("held in " + n, x.ahead(n, 3), held[n]);
        }
        KIT.due("held in 99, the last one to come yet", x.ahead(99, 3), 0);
        x.weeks(7);
        KIT.due("paid more", x.ahead(0, 0), 0);
        KIT.due("gone more", x.ahead(0, 2), 0);
        KIT.due("held in 92", x.ahead(92, 3), 0);
        KIT.due("held in 93", x.ahead(93, 3), 1);
        KIT.due("paid more in 92", x.ahead(92, 0), 0);
        KIT.due("paid more in 93, all of what is left", x.ahead(93, 0), 4);
        KIT.due("owed more in 93", x.ahead(93, 1), 1);
        ThoughtTax owes = in(4, "man a 9 0;thought a 50 0 0;" + READ + "law due 7;");
        KIT.due("paid more of what is left", owes.ahead(4, 0), 2);
        KIT.due("owed more", owes.ahead(4, 1), 5);
        KIT.due("owed more by two visits", owes.ahead(8, 1), 12);
        owes.weeks(4);
        KIT.due("owed more than is owed", owes.ahead(4, 1), 7);
        KIT.due("nobody", new ThoughtTax().ahead(99, 3), 0);
    }

    private static void aheadOfTheLastWeek() {
        ThoughtTax x = Kit.told("man a 999 0;man b 998 0;" + READ);
        for (int i = 0; i < 100; i++) {
            x.weeks(99);
        }
        KIT.due("week 9900", x.count(4), 9900);
        KIT.due("asked ahead of it", x.ahead(99, 0), 0);
        KIT.due("richest ahead of it", x.richest(99), 0);
        KIT.due("chance ahead of it", x.chance(0, 99, 0), 10);
        KIT.due("tried ahead of it", x.tried(4, 0, 99), 0);
    }

    private static void likely() {
        String street = "man a 99 0;man b 99 0;thought a 50 0 0;thought b 60 0 3;thought a 70 9 0;thought a 80 0 1;reader r 9 2;reader s 9 8;law hide 4*(worth<>80);";
        Kit.Maker now = () -> in(2, street);
        KIT.stays("a tongue that isn't known", now, x -> x.likely(0), 0);
        KIT.stays("the highest tongue", now, x -> x.likely(1), 90);
        KIT.stays("to come", now, x -> x.likely(2), -2);
        KIT.stays("gone", now, x -> x.likely(3), -2);
        for (int thought : new int[] {-1, 4, 12, Kit.LEAST, Kit.MOST}) {
            KIT.stays("likely(" + thought + ")", now, x -> x.likely(thought), -1);
        }
        KIT.due("there is no reader", in(1, "man a 99 0;thought a 50 0 0;law read 100;").likely(0), 0);
        KIT.due("100 of a hundred", in(1, "man a 99 0;thought a 50 0 0;reader r 0 1;law read 100;").likely(0), 100);
        KIT.due("101 of a hundred", in(1, "man a 99 0;thought a 50 0 0;reader r 0 1;law read 101;").likely(0), 100);
        KIT.due("-1 of a hundred", in(1, "man a 99 0;thought a 50 0 0;reader r 0 1;law read 0-1;").likely(0), 0);
        ThoughtTax hidden = now.make();
        hidden.hide(0, 1);
        hidden.round(1, 0);
        KIT.due("at another's door, by that round", hidden.likely(1), 0);
        KIT.due("none such at first", new ThoughtTax().likely(0), -1);
    }

    private static void bestRound() {
        for (int what = 0; what <= 4; what++) {
            int one = what;
            KIT.asks("bestRound(" + one + ")", x -> x.bestRound(one));
            KIT.due("no readers, " + one, Kit.told("man a 1 1;").bestRound(one), -1);
        }
        for (int what : new int[] {-1, 5, Kit.LEAST, Kit.MOST}) {
            KIT.stays("bestRound(" + what + ")", x -> x.bestRound(what), -1);
        }
        KIT.stays("three doors", x -> x.bestRound(3), -2);
        String men = "man a 1 1;man b 1 1;man c 1 1;man d 1 1;man e 1 1;man f 1 1;";
        for (int many = 0; many <= 6; many++) {
            ThoughtTax x = Kit.told(men.substring(0, 10 * many) + "reader r 1 1;");
            for (int door = 0; door < 4; door++) {
                KIT.due(many + " doors, " + door, x.bestRound(door), door < many ? 0 : -2);
            }
            KIT.due(many + " doors, in all", x.bestRound(4), 0);
        }
        ThoughtTax x = Kit.told("man a 1 0;thought a 50 0 0;thought a 60 1 0;reader r 9 1;law read 100;law due worth;law hide 0;");
        KIT.due("in week 0, as if it were a fourth one, with what comes in it", x.bestRound(4), 50);
        x.weeks(1);
        KIT.due("in week 1, with what is held yet", x.bestRound(4), 60);
        x.weeks(1);
        KIT.due("in week 2, what is held alone", x.bestRound(4), 60);
        x.weeks(1);
        KIT.due("in week 3, nothing", x.bestRound(4), 0);
    }

    private static void bestRoundsDoors() {
        String men = "man a 0 0;man b 9 0;man c 99 0;man d 0 0;man e 0 0;man f 0 0;";
        String thoughts = "thought a 9 0 0;thought b 9 0 0;thought c 9 0 0;thought d 9 0 0;thought e 9 0 0;thought f 9 0 0;";
        ThoughtTax x = in(1, men + thoughts + "reader r 1 1;reader s 3 1;reader t 3 1;reader u 2 1;law read 100;law due skill*10;");
        for (int door = 0; door < 4; door++) {
            KIT.due("the first reader of several at door " + door, x.bestRound(door), 1);
        }
        KIT.due("paid and owed, the fifth and sixth door as they are", x.bestRound(4), 4 * 30 + 10 + 30);
        x.round(4, 3);
        x.round(5, 0);
        KIT.due("as they are now", x.bestRound(4), 4 * 30 + 20 + 10);
        x.round(3, 0);
        KIT.due("the fourth door's is chosen", x.bestRound(4), 4 * 30 + 20 + 10);
        ThoughtTax even = in(1, men + thoughts + "reader r 1 1;reader s 3 1;law read 100;law due 5;");
        even.round(0, 1);
        KIT.due("all the same: the first reader, whoever visits now", even.bestRound(0), 0);
        ThoughtTax none = in(1, men + thoughts + "reader r 1 0;reader s 9 0;");
        KIT.due("nothing is read: the first reader", none.bestRound(1), 0);
        KIT.due("nothing is read", none.bestRound(4), 0);
        ThoughtTax half = in(1, "man a 0 0;thought a 50 0 0;reader r 9 1;reader s 8 1;law read 40+skill+(skill=8)*2;law due 7;");
        KIT.due("49 isn't read, 50 is", half.bestRound(0), 1);
    }

    private static void hideIn() {
        for (int what : new int[] {0, 1}) {
            for (int thought : new int[] {0, 3}) {
                KIT.asks("hideIn(" + thought + ", " + what + ")", x -> x.hideIn(thought, what));
            }
            for (int thought : new int[] {-1, 4, 12, Kit.LEAST, Kit.MOST}) {
                KIT.stays("hideIn(" + thought + ", " + what + ")", x -> x.hideIn(thought, what), -1);
            }
            KIT.stays("hideIn of what is to come", () -> Kit.told(Kit.STREET), x -> x.hideIn(0, what), -2);
            KIT.stays("hideIn of what is gone", () -> in(20, Kit.STREET), x -> x.hideIn(0, what), -2);
        }
        for (int what : new int[] {-1, 2, Kit.LEAST, Kit.MOST}) {
            KIT.stays("hideIn(0, " + what + ")", x -> x.hideIn(0, what), -1);
            KIT.stays("hideIn of what is to come, what " + what, () -> Kit.told(Kit.STREET), x -> x.hideIn(0, what), -1);
        }
        String men = "man a 9 0;man b 9 1;man c 9 2;man d 9 3;man e 9 4;man f 9 9;";
        ThoughtTax x = in(1, men + "thought a 50 0 0;reader r 9 1;law read 100;law due 99-wiles;law hide 99;");
        KIT.due("the sixth", x.hideIn(0, 0), 5);
        KIT.due("paid and owed", x.hideIn(0, 1), 3 * 90);
        ThoughtTax even = in(1, men + "thought f 50 0 0;reader r 9 1;law read 100;law due 7-(wiles=1)-(wiles=4);law hide 99;");
        KIT.due("the first of several", even.hideIn(0, 0), 1);
        KIT.due("what they pay and owe", even.hideIn(0, 1), 18);
        ThoughtTax own = in(1, men + "thought c 50 0 0;reader r 9 1;law read 100;law due 7-(wiles=2);law hide 99;");
        KIT.due("whose it is", own.hideIn(0, 0), 2);
        own.hide(0, 1);
        KIT.due("it should come back", own.hideIn(0, 0), 2);
        ThoughtTax others = in(1, "man a 9 0;man b 9 0;thought a 50 0 0;thought b 60 0 0;reader r 9 1;law read 100;law due worth;law hide 99;");
        KIT.due("less of all, not of whose it is", others.hideIn(0, 0), 1);
        KIT.due("of all", others.hideIn(0, 1), 180);
    }

    private static void hideInTwelveWeeks() {
        String street = "man a 999 0;thought a 50 0 0;" + READ + "law due 1+99*(week>=15);";
        for (int week = 1; week <= 4; week++) {
            ThoughtTax x = in(week, street);
            KIT.due("12 weeks from week " + week, x.hideIn(0, 1), week < 4 ? 3 : 102);
        }
    }

    private static void bestRate() {
        for (int what : new int[] {0, 1}) {
            KIT.asks("bestRate(1, " + what + ")", x -> x.bestRate(1, what));
            KIT.asks("bestRate(40, " + what + ")", x -> x.bestRate(40, what));
            for (int n : new int[] {0, -1, 41, Kit.LEAST, Kit.MOST}) {
                KIT.stays("bestRate(" + n + ", " + what + ")", x -> x.bestRate(n, what), -1);
            }
        }
        for (int what : new int[] {-1, 2, Kit.LEAST, Kit.MOST}) {
            KIT.stays("bestRate(4, " + what + ")", x -> x.bestRate(4, what), -1);
        }
        ThoughtTax x = Kit.told("man a 999 0;thought a 99 39 0;" + READ);
        KIT.due("in 39: nothing by any, the first rate", x.bestRate(39, 0), 0);
        KIT.due("in 39: nothing", x.bestRate(39, 1), 0);
        KIT.due("in 40: the greatest rate", x.bestRate(40, 0), 100);
        KIT.due("in 40: all of it", x.bestRate(40, 1), 99);
        ThoughtTax one = in(3, "man a 999 0;thought a 50 0 0;" + READ);
        KIT.due("in 1", one.bestRate(1, 0), 100);
        ThoughtTax poor = Kit.told("man a 1 0;thought a 50 0 0;" + READ);
        KIT.due("the first of several", poor.bestRate(4, 0), 2);
        KIT.due("what is owed isn't paid", poor.bestRate(4, 1), 1);
        ThoughtTax nothing = Kit.told("man a 0 0;thought a 50 0 0;" + READ);
        KIT.due("an empty purse", nothing.bestRate(40, 0), 0);
        ThoughtTax two = in(4, "man a 60 0;thought a 50 0 0;rate 50;" + READ);
        KIT.due("paid more in these weeks", two.bestRate(4, 1), 35);
        KIT.due("by what is left", two.bestRate(4, 0), 70);
        KIT.due("by law it is the first", Kit.told("man a 60 0;thought a 50 0 0;law due 5;" + READ).bestRate(4, 0), 0);
        KIT.due("by a law that has an error at times", Kit.told("man a 99 0;thought a 50 0 0;law due 5/(week>3);" + READ).bestRate(8, 1), 55);
    }

    private static void worthless() {
        KIT.asks("worthless", ThoughtTax::worthless);
        KIT.due("nothing is thought", new ThoughtTax().worthless(), 0);
        String street = "man a 99 0;man b 99 0;thought a 50 1 0;thought a 40 1 0;thought b 5 1 0;thought b 5 1 0;thought b 4 1 0;" + READ;
        ThoughtTax x = Kit.told(street);
        KIT.due("the best one alone; of two that are even neither", x.worthless(), 1);
        x.weeks(2);
        KIT.due("none that is held", x.worthless(), 0);
        ThoughtTax late = in(10, "man a 99 0;thought a 50 0 0;thought a 60 11 0;reader r 9 1;law read 100;law hide 4;law due worth;");
        KIT.due("none that is gone", late.worthless(), 2);
        ThoughtTax broke = Kit.told("man a 0 0;thought a 50 0 0;" + READ);
        KIT.due("what is owed counts", broke.worthless(), 1);
        ThoughtTax unread = Kit.told("man a 99 0;thought a 50 0 0;reader r 4 1;");
        KIT.due("what isn't read costs nothing", unread.worthless(), 0);
        ThoughtTax wrong = Kit.told("man a 99 0;thought a 50 0 0;thought a 1 0 0;reader r 9 1;law read 100*(there=1);law due 9;");
        KIT.due("without which more would be due", wrong.worthless(), 0);
        StringBuilder twelve = new StringBuilder("man a 0 0;man b 0 0;" + READ);
        for (int t = 0; t < 12; t++) {
            twelve.append("thought ").append(t < 11 ? 'a' : 'b').append(" 50 0 0;");
        }
        KIT.due("the twelfth", Kit.told(twelve.toString()).worthless(), 1 << 11);
    }

    private static void worthlessInTwentyWeeks() {
        String street = "man a 99 0;thought a 50 19 0;thought a 60 20 0;thought a 70 22 0;reader r 9 1;law read 100;law due worth;law hide 0;";
        for (int week = 0; week <= 4; week++) {
            ThoughtTax x = in(week, street);
            KIT.due("in week " + week, x.worthless(), week < 4 ? 1 : 1 | 4);
        }
        ThoughtTax x = Kit.told("man a 99 0;thought a 50 23 0;" + READ);
        int[] due = {0, 0, 0, 0, 1, 1};
        for (int week = 0; week < due.length; week++) {
            KIT.due("of week 23 in week " + week, x.worthless(), due[week]);
            x.weeks(1);
        }
    }

    private static void share() {
        for (int what : new int[] {0, 1}) {
            KIT.asks("share(0, 3, " + what + ")", x -> x.share(0, 3, what));
            KIT.stays("of one person", x -> x.share(0, 1, what), -1);
            KIT.stays("of one thought", x -> x.share(3, 3, what), -1);
            for (int thought : new int[] {-1, 4, 12, Kit.LEAST, Kit.MOST}) {
                KIT.stays("share(" + thought + ", 2, " + what + ")", x -> x.share(thought, 2, what), -1);
                KIT.stays("share(2, " + thought + ", " + what + ")", x -> x.share(2, thought, what), -1);
                KIT.stays("share(" + thought + ", " + thought + ", " + what + ")", x -> x.share(thought, thought, what), -1);
            }
        }
        for (int what : new int[] {-1, 2, Kit.LEAST, Kit.MOST}) {
            KIT.stays("share(0, 3, " + what + ")", x -> x.share(0, 3, what), -1);
        }
        String pair = "man a 1 1;man b 1 1;thought a 99 50 0;thought b 1 50 0;thought b 99 50 0;rate ";
        int[][] due = {{100, 0, 1, 98, 1}, {100, 1, 0, 0, 99}, {100, 0, 2, 49, 50}, {100, 2, 0, 49, 50}, {0, 0, 1, 0, 0}, {1, 0, 1, 0, 0},
            {2, 0, 1, 0, 1}, {2, 1, 0, 0, 1}, {3, 0, 1, 1, 1}, {50, 0, 1, 48, 1}};
        for (int[] one : due) {
            ThoughtTax x = Kit.told(pair + one[0] + ";");
            KIT.due("rate " + one[0] + ", " + one[1] + " and " + one[2] + ": the first", x.share(one[1], one[2], 0), one[3]);
            KIT.due("rate " + one[0] + ", " + one[1] + " and " + one[2] + ": the second", x.share(one[1], one[2], 1), one[4]);
        }
        KIT.due("no law has a say", Kit.told(pair + "100;law due 5;").share(0, 2, 0), 49);
        KIT.due("gone ones, too", in(99, pair + "100;").share(0, 2, 1), 50);
    }

    private static void chain() {
        String readers = "reader a 1 1;reader b 2 1;reader c 6 1;reader d 9 1;";
        for (int many = 0; many <= 4; many++) {
            String text = readers.substring(0, 13 * many);
            Kit.Maker now = () -> Kit.told(text);
            KIT.stays(many + " readers, none of them", now, x -> x.chain(0), 100);
            int beyond = 1 << many;
            KIT.due(many + " readers, all of them", Kit.told(text).chain(beyond - 1), new int[] {100, 10, 2, 1, 0}[many]);
            for (int bits : new int[] {beyond, beyond + 1, -1, -beyond, Kit.LEAST, Kit.MOST, 1 << 30}) {
                KIT.stays(many + " readers, chain(" + bits + ")", now, x -> x.chain(bits), -1);
            }
        }
        // 1 2 6 9 is 10, 2, 1, 0; 9 6 2 1 would be 90, 54, 10, 1.
        KIT.due("the least first, cut each time", Kit.told("reader a 9 1;reader b 6 1;reader c 2 1;reader d 1 1;").chain(15), 0);
        KIT.due("the last one alone", Kit.told(readers).chain(8), 90);
        KIT.due("skill 0 keeps nothing", Kit.told("reader a 0 1;reader b 9 1;").chain(1), 0);
        KIT.due("even ones", Kit.told("reader a 9 1;reader b 9 1;reader c 9 1;reader d 9 1;").chain(15), 64);
    }

    private static ThoughtTax holding(int worth, int rate) {
        StringBuilder b = new StringBuilder("man a 1 1;man b 1 1;rate " + rate + ";");
        for (int left = worth; left > 0; left -= 99) {
            b.append("thought ").append(left % 2 == 0 ? 'a' : 'b').append(" ").append(Math.min(left, 99)).append(" 0 0;");
        }
        return in(1, b.toString());
    }

    private static void rests() {
        KIT.asks("rests", ThoughtTax::rests);
        KIT.asks("rest(0)", x -> x.rest(0));
        for (int k : new int[] {-1, Kit.LEAST}) {
            KIT.stays("rest(" + k + ")", x -> x.rest(k), -1);
        }
        for (int k : new int[] {4, Kit.MOST}) {
            KIT.stays("rest(" + k + ")", x -> x.rest(k), -2);
        }
        KIT.due("nothing held", new ThoughtTax().rests(), 1);
        KIT.due("nothing held: no wool, kind", new ThoughtTax().rest(0), 11);
        KIT.due("nothing held: no second one", new ThoughtTax().rest(1), -2);
        // 9 in all at 100: half is 4; the street loses 9 or, by wool, 4 and 5.
        ThoughtTax wool = holding(9, 100);
        KIT.due("wool costs as much as it saves", wool.rests(), 2);
        KIT.due("by the street's", wool.rest(0), 0);
        KIT.due("then no wool", wool.rest(1), 10);
        KIT.due("no third one", wool.rest(2), -2);
        KIT.due("one less: no wool alone", holding(8, 100).rest(0) * 100 + holding(8, 100).rests(), 1001);
        KIT.due("two more: wool alone", holding(11, 100).rest(0) * 100 + holding(11, 100).rests(), 1);
        // 5 in all at 100: half is 2; looking well brings 3 more and costs 3.
        ThoughtTax well = holding(5, 100);
        KIT.due("looking well costs as much as it brings", well.rests(), 2);
        KIT.due("by the reader's: well", well.rest(0), 10);
        KIT.due("then kind", well.rest(1), 11);
        KIT.due("one less: kind alone", holding(4, 100).rest(0) * 100 + holding(4, 100).rests(), 1101);
        KIT.due("two more: well alone", holding(7, 100).rest(0) * 100 + holding(7, 100).rests(), 1001);
        KIT.due("a rate of 0", holding(999, 0).rest(0), 11);
        for (String other : new String[] {"thought a 1 9 0;", "thought a 2 0 0;law hide 2*(worth>8);"}) {
            for (int worth = 9; worth <= 10; worth++) {
                ThoughtTax edge = in(2, "man a 1 1;thought a " + worth + " 0 0;rate 100;" + other);
                KIT.due("what isn't held neither adds nor takes: " + worth + other, edge.rests(), 2);
                KIT.due("which: " + worth + other, edge.rest(1), 10);
            }
        }
        ThoughtTax five = in(1, "man a 1 1;thought a 5 0 0;thought a 99 50 0;rate 100;");
        KIT.due("nor of five", five.rests() * 10000 + five.rest(0) * 100 + five.rest(1), 21011);
        KIT.due("a thought to come isn't held", Kit.told("man a 1 1;thought a 99 0 0;rate 100;").rest(0), 11);
        KIT.due("one that is gone isn't", in(30, "man a 1 1;thought a 99 0 0;rate 100;").rest(0), 11);
    }

    private static void restsOfAllRates() {
        for (int worth = 1; worth <= 1188; worth += worth < 30 ? 1 : 97) {
            for (int rate = 0; rate <= 100; rate += worth < 30 ? 1 : 7) {
                ThoughtTax x = holding(worth, rate);
                int rests = 0;
                for (int street = 0; street <= 1; street++) {
                    for (int reader = 0; reader <= 1; reader++) {
                        int[] mine = game(worth, rate, street, reader);
                        boolean rests1 = mine[0] >= game(worth, rate, 1 - street, reader)[0];
                        boolean rests2 = mine[1] >= game(worth, rate, street, 1 - reader)[1];
                        if (rests1 && rests2) {
                            KIT.due("worth " + worth + ", rate " + rate + ", rest " + rests, x.rest(rests), 10 * street + reader);
                            rests++;
                        }
                    }
                }
                KIT.due("worth " + worth + ", rate " + rate, x.rests(), rests);
                KIT.due("worth " + worth + ", rate " + rate + ", no more", x.rest(rests), -2);
            }
        }
    }

    /** What the street has and what the reader has. */
    private static int[] game(int worth, int rate, int street, int reader) {
        int[][] read = {{worth / 2, 0}, {worth, worth / 2}};
        int tax = read[street][reader] * rate / 100;
        return new int[] {-tax - 5 * (1 - street), tax - 3 * (1 - reader)};
    }

    private static void first() {
        KIT.asks("first", ThoughtTax::first);
        KIT.stays("nobody is there", ThoughtTax::new, x -> x.first(), -1);
        KIT.stays("nobody but a reader", () -> Kit.told("reader a 1 1;"), x -> x.first(), -1);
        KIT.stays("nothing is held yet", () -> Kit.told(Kit.STREET), x -> x.first(), -2);
        KIT.stays("nothing is held any more", () -> in(40, Kit.STREET), x -> x.first(), -2);
        KIT.stays("nobody thinks", () -> Kit.told("man a 1 1;"), x -> x.first(), -2);
        KIT.due("the least worth at the last door", in(1, "man a 1 1;man b 1 1;man c 1 1;man d 1 1;man e 1 1;man f 1 1;thought f 1 0 0;").first(), 5);
        String street = "man a 1 1;man b 1 1;man c 1 1;thought a 98 0 0;thought b 50 0 0;thought b ";
        KIT.due("one less in sum", in(1, street + "47 0 0;").first(), 0);
        KIT.due("as much in sum: the first", in(1, street + "48 0 0;").first(), 0);
        KIT.due("one more in sum", in(1, street + "49 0 0;").first(), 1);
        ThoughtTax x = in(1, street + "49 0 0;");
        x.hide(1, 2);
        KIT.due("where it is held", x.first(), 0);
    }

    private static void farthing() {
        for (int worth : new int[] {0, -1, 100, Kit.LEAST, Kit.MOST}) {
            KIT.stays("farthing(" + worth + ")", x -> x.farthing(worth), -1);
        }
        KIT.asks("farthing(1)", x -> x.farthing(1));
        ThoughtTax x = new ThoughtTax();
        for (int worth = 1; worth <= 99; worth++) {
            int least = 1;
            while (worth * least / 100 < 1) {
                least++;
            }
            KIT.due("farthing(" + worth + ")", x.farthing(worth), least);
        }
        KIT.due("the least worth", x.farthing(1), 100);
        KIT.due("the greatest worth", x.farthing(99), 2);
    }

    private static ThoughtTax dulled(int likely, int there) {
        ThoughtTax x = in(1, "man a 99 0;thought a 50 0 0;thought a 50 0 1;thought a 50 9 0;reader r 9 1;dull 1;law read " + likely + "-dulled;");
        if (there > 0) {
            x.buy(0, there);
        }
        return x;
    }

    private static void enough() {
        KIT.asks("enough(0)", x -> x.enough(0));
        KIT.asks("enough(2)", x -> x.enough(2));
        for (int man : new int[] {-1, 3, 6, Kit.LEAST, Kit.MOST}) {
            KIT.stays("enough(" + man + ")", x -> x.enough(man), -1);
        }
        for (int there = 0; there <= 9; there++) {
            for (int likely = 45; likely <= 62; likely++) {
                int more = Math.max(0, likely - there - 49);
                KIT.due(likely + " by " + there + " there", dulled(likely, there).enough(0), more + there <= 9 ? more : -2);
            }
        }
        KIT.due("nothing is held there", Kit.told("man a 99 0;reader r 9 1;law read 100;").enough(0), 0);
        KIT.due("nothing is held there yet", Kit.told("man a 99 0;thought a 9 0 0;reader r 9 1;law read 100;").enough(0), 0);
        KIT.due("nobody visits", in(1, "man a 99 0;thought a 9 0 0;law read 100;").enough(0), 0);
        KIT.due("a tongue that isn't known", in(1, "man a 99 0;thought a 9 0 1;reader r 9 1;law read 100;").enough(0), 0);
        KIT.due("whatever the purse has", in(1, "man a 0 0;thought a 9 0 0;reader r 9 1;").enough(0), 5);
        KIT.due("nobody at first", new ThoughtTax().enough(0), -1);
        KIT.due("the fewest", in(1, "man a 0 0;thought a 9 0 0;reader r 9 1;law read 100*(dulled<>3 and dulled<>5);").enough(0), 3);
        KIT.due("nothing of two", in(1, "man a 0 0;thought a 9 0 0;thought a 8 0 0;reader r 9 1;law read 40+worth*2-dulled;").enough(0), 9);
    }

    private static void vote() {
        for (int what : new int[] {0, 1}) {
            for (int n : new int[] {1, 40}) {
                for (int rate : new int[] {0, 100}) {
                    KIT.asks("vote(" + n + ", " + rate + ", " + what + ")", x -> x.vote(n, rate, what));
                }
            }
            for (int n : new int[] {0, -1, 41, Kit.LEAST, Kit.MOST}) {
                KIT.stays("vote(" + n + ", 5, " + what + ")", x -> x.vote(n, 5, what), -1);
            }
            for (int rate : new int[] {-1, 101, Kit.LEAST, Kit.MOST}) {
                KIT.stays("vote(4, " + rate + ", " + what + ")", x -> x.vote(4, rate, what), -1);
            }
        }
        for (int what : new int[] {-1, 2, Kit.LEAST, Kit.MOST}) {
            KIT.stays("vote(4, 5, " + what + ")", x -> x.vote(4, 5, what), -1);
        }
        ThoughtTax x = Kit.told("man a 999 0;man b 0 0;man c 9 0;thought a 50 39 0;thought b 99 39 0;rate 50;" + READ);
        KIT.due("in 39 nobody is for it", x.vote(39, 0, 0), 0);
        KIT.due("in 39 nobody is against it", x.vote(39, 100, 1), 0);
        KIT.due("in 40 two are for it, one by what is owed", x.vote(40, 0, 0), 2);
        KIT.due("in 40 two are against it", x.vote(40, 100, 1), 2);
        KIT.due("none against it", x.vote(40, 0, 1), 0);
        KIT.due("none for it", x.vote(40, 100, 0), 0);
        KIT.due("one more of a hundred is as much for 50, not for 99", x.vote(40, 51, 1), 1);
        KIT.due("the rate there is: for it", x.vote(40, 50, 0), 0);
        KIT.due("the rate there is: against it", x.vote(40, 50, 1), 0);
        x.rate(100);
        KIT.due("than by the one there is", x.vote(40, 50, 0), 2);
        ThoughtTax one = in(3, "man a 999 0;thought a 50 0 0;" + READ);
        KIT.due("in 1", one.vote(1, 19, 0), 1);
        KIT.due("nobody", new ThoughtTax().vote(1, 0, 0), 0);
    }

    private static void whose() {
        for (int worth : new int[] {1, 99}) {
            for (int tongue : new int[] {0, 3}) {
                KIT.asks("whose(" + worth + ", " + tongue + ")", x -> x.whose(worth, tongue));
            }
        }
        for (int worth : new int[] {0, -1, 100, Kit.LEAST, Kit.MOST}) {
            KIT.stays("whose(" + worth + ", 0)", x -> x.whose(worth, 0), -1);
        }
        for (int tongue : new int[] {-1, 4, Kit.LEAST, Kit.MOST}) {
            KIT.stays("whose(40, " + tongue + ")", x -> x.whose(40, tongue), -1);
        }
        String men = "man a 1 1;man b 1 1;man c 1 1;man d 1 1;man e 1 1;man f 1 1;";
        ThoughtTax x = in(1, men + "thought a 1 0 0;thought f 99 0 3;thought f 99 0 3;thought c 99 0 3;thought d 99 9 3;thought e 98 0 3;thought e 99 0 2;");
        KIT.due("the least", x.whose(1, 0), 1);
        KIT.due("the most", x.whose(99, 3), 1 << 5 | 1 << 2);
        KIT.due("another tongue", x.whose(99, 2), 1 << 4);
        KIT.due("nobody's", x.whose(2, 0), 0);
        x.hide(3, 3);
        KIT.due("who holds it", x.whose(99, 3), 1 << 5 | 1 << 3);
        x.weeks(40);
        KIT.due("gone", x.whose(99, 3), 0);
        KIT.due("nobody", new ThoughtTax().whose(1, 0), 0);
    }

    private static void debtor() {
        KIT.asks("debtor", ThoughtTax::debtor);
        KIT.stays("nobody is there", ThoughtTax::new, x -> x.debtor(), -2);
        KIT.stays("nobody owes anything", () -> Kit.told(Kit.STREET), x -> x.debtor(), -2);
        String men = "man a 9 0;man b 9 0;man c 9 0;man d 9 0;man e 9 0;man f 9 0;";
        KIT.due("all is paid", in(4, men + "thought f 9 0 0;law due 9;" + READ).debtor(), -2);
        KIT.due("one is owed", in(4, men + "thought f 9 0 0;law due 10;" + READ).debtor(), 5);
        KIT.due("the first of several", in(4, men + "thought b 9 0 0;thought d 9 0 0;law due 10;" + READ).debtor(), 1);
        KIT.due("who owes most", in(4, men + "thought b 9 0 0;thought d 10 0 0;law due worth+1;" + READ).debtor(), 3);
    }

    private static void nextRead() {
        KIT.asks("nextRead(0)", x -> x.nextRead(0));
        KIT.asks("nextRead(3)", x -> x.nextRead(3));
        for (int thought : new int[] {-1, 4, 12, Kit.LEAST, Kit.MOST}) {
            KIT.stays("nextRead(" + thought + ")", x -> x.nextRead(thought), -1);
        }
        String street = "man a 9 0;thought a 9 0 0;thought a 9 99 0;thought a 9 3 1;" + READ.replace("15", "1");
        int[] due = {4, 3, 2, 1, 4, 3};
        ThoughtTax x = Kit.told(street);
        for (int week = 0; week < due.length; week++) {
            KIT.due("in week " + week, x.nextRead(0), due[week]);
            KIT.due("of week 99, in week " + week, x.nextRead(1), week == 0 ? -2 : 100 - week);
            KIT.due("a tongue that isn't known", x.nextRead(2), -2);
            x.weeks(1);
        }
        x.weeks(99);
        KIT.due("gone", x.nextRead(0), -2);
        ThoughtTax gone = in(3, "man a 9 0;thought a 9 0 0;reader r 9 1;law read 100;law hide 3;");
        KIT.due("this one", gone.nextRead(0), 1);
        gone.weeks(1);
        KIT.due("read already, gone by the next visit", gone.nextRead(0), -2);
        KIT.due("49 isn't read", in(3, "man a 9 0;thought a 9 0 0;reader r 9 1;law read 49;").nextRead(0), -2);
        KIT.due("50 is", in(3, "man a 9 0;thought a 9 0 0;reader r 9 1;law read 50;").nextRead(0), 1);
        KIT.due("none such at first", new ThoughtTax().nextRead(0), -1);
    }

    private static void richest() {
        KIT.asks("richest(0)", x -> x.richest(0));
        KIT.asks("richest(99)", x -> x.richest(99));
        for (int n : new int[] {-1, 100, Kit.LEAST, Kit.MOST}) {
            KIT.stays("richest(" + n + ")", x -> x.richest(n), -1);
        }
        for (int n : new int[] {0, 99}) {
            KIT.due("nobody is there, " + n, new ThoughtTax().richest(n), -1);
            KIT.due("empty purses: the first, " + n, Kit.told("man a 0 0;man b 0 0;").richest(n), 0);
        }
        KIT.due("the last one", Kit.told("man a 0 0;man b 0 0;man c 0 0;man d 0 0;man e 0 0;man f 1 0;").richest(0), 5);
        String street = "man a 20 0;man b 19 0;man c 18 0;thought a 9 95 0;law due ";
        KIT.due("one is paid: as much, the first", Kit.told(street + "1;" + READ).richest(96), 0);
        KIT.due("two are paid in 95", Kit.told(street + "2;" + READ).richest(95), 0);
        KIT.due("two are paid in 96", Kit.told(street + "2;" + READ).richest(96), 1);
        KIT.due("two are paid in 99", Kit.told(street + "2;" + READ).richest(99), 1);
    }

    private static void holds() {
        KIT.asks("holds(0)", x -> x.holds(0));
        KIT.asks("holds(2)", x -> x.holds(2));
        for (int man : new int[] {-1, 3, 6, Kit.LEAST, Kit.MOST}) {
            KIT.stays("holds(" + man + ")", x -> x.holds(man), -1);
        }
        StringBuilder twelve = new StringBuilder("man a 0 0;man b 0 0;");
        for (int t = 0; t < 12; t++) {
            twelve.append("thought ").append(t % 2 == 0 ? 'a' : 'b').append(" 50 ").append(t / 6).append(" 0;");
        }
        ThoughtTax x = Kit.told(twelve.toString());
        KIT.due("to come", x.holds(0), 0);
        x.weeks(1);
        KIT.due("six of twelve", x.holds(0) * 1000 + x.holds(1), 0b010101 * 1000 + 0b101010);
        x.weeks(1);
        KIT.due("all of a", x.holds(0), 0b010101010101);
        KIT.due("all of b", x.holds(1), 0b101010101010);
        x.weeks(8);
        KIT.due("six are gone", x.holds(0), 0b010101000000);
        KIT.due("nobody at first", new ThoughtTax().holds(0), -1);
    }

    private static void hidden() {
        KIT.asks("hidden", ThoughtTax::hidden);
        KIT.due("nothing", new ThoughtTax().hidden(), 0);
        ThoughtTax x = in(1, "man a 0 0;man b 0 0;" + "thought b 9 0 0;".repeat(12));
        KIT.due("all at home", x.hidden(), 0);
        for (int t = 0; t < 12; t++) {
            x.hide(t, 0);
            KIT.due("hidden up to " + t, x.hidden(), (2 << t) - 1);
        }
        x.hide(11, 1);
        KIT.due("the last one came back", x.hidden(), 0x7ff);
        x.weeks(9);
        KIT.due("gone", x.hidden(), 0);
    }

    private static void chance() {
        for (int seed : new int[] {0, Kit.MOST}) {
            for (int n : new int[] {1, 99}) {
                for (int paid : new int[] {0, 999}) {
                    KIT.asks("chance(" + seed + ", " + n + ", " + paid + ")", x -> x.chance(seed, n, paid));
                }
            }
        }
        for (int seed : new int[] {-1, Kit.LEAST}) {
            KIT.stays("chance(" + seed + ", 1, 0)", x -> x.chance(seed, 1, 0), -1);
        }
        for (int n : new int[] {0, -1, 100, Kit.LEAST, Kit.MOST}) {
            KIT.stays("chance(1, " + n + ", 0)", x -> x.chance(1, n, 0), -1);
        }
        for (int paid : new int[] {-1, 1000, Kit.LEAST, Kit.MOST}) {
            KIT.stays("chance(1, 1, " + paid + ")", x -> x.chance(1, 1, paid), -1);
        }
        KIT.due("0 at least is always paid", new ThoughtTax().chance(0, 1, 0), 10);
        KIT.due("1 at least isn't", new ThoughtTax().chance(0, 99, 1), 0);
        ThoughtTax sure = in(3, "man a 999 0;thought a 9 0 0;law due 998;" + READ);
        KIT.due("998 at least in this week", sure.chance(5, 1, 998), 10);
        KIT.due("999 at least in this week", sure.chance(5, 1, 999), 0);
        KIT.due("999 at least in 4", sure.chance(5, 4, 999), 0);
        KIT.due("999 at least in 5", sure.chance(5, 5, 999), 10);
        ThoughtTax late = Kit.told("man a 999 0;thought a 9 95 0;law due 1;" + READ);
        KIT.due("in 95", late.chance(5, 95, 1), 0);
        KIT.due("in 96", late.chance(5, 96, 1), 10);
        ThoughtTax before = in(4, "man a 999 0;thought a 9 0 0;law due 7;" + READ);
        KIT.due("paid more than now", before.chance(5, 4, 7), 10);
        KIT.due("what was paid doesn't count", before.chance(5, 4, 8), 0);
    }

    private static void chanceByNumbers() {
        ThoughtTax x = Kit.told("man a 999 0;thought a 9 0 0;thought a 8 0 0;reader r 9 1;law read 30;law due worth;seed 4;law hide 99;");
        for (int seed : new int[] {0, 1, 99999, 100000, 65536, 1 << 30, Kit.MOST - 1, Kit.MOST}) {
            long[] last = {seed};
            int[] times = new int[20];
            for (int time = 0; time < 10; time++) {
                int sum = 0;
                for (int visit = 0; visit < 2; visit++) {
                    int best = 30 > Kit.draw(last) % 100 ? 9 : 0;
                    best = Math.max(best, 30 > Kit.draw(last) % 100 ? 8 : 0);
                    sum += best;
                }
                for (int paid = 0; paid <= sum; paid++) {
                    times[paid]++;
                }
            }
            for (int paid = 0; paid < times.length; paid++) {
                KIT.due("seed " + seed + ", " + paid + " at least", x.chance(seed, 8, paid), times[paid]);
            }
        }
    }

    private static void tried() {
        for (int what = 0; what <= 4; what++) {
            int one = what;
            for (int n : new int[] {0, 99}) {
                KIT.asks("tried(" + one + ", 0, " + n + ")", x -> x.tried(one, 0, n));
            }
            for (int n : new int[] {-1, 100, Kit.LEAST, Kit.MOST}) {
                KIT.stays("tried(" + one + ", 0, " + n + ")", x -> x.tried(one, 0, n), -1);
            }
            for (int i : new int[] {-1, 1, 2, 3, 6, Kit.LEAST, Kit.MOST}) {
                boolean isThere = one == 2 && (i == 1 || i == 2);
                if (isThere) {
                    KIT.asks("tried(2, " + i + ", 4)", x -> x.tried(2, i, 4));
                } else {
                    KIT.stays("tried(" + one + ", " + i + ", 4)", x -> x.tried(one, i, 4), -1);
                }
            }
            KIT.due("nobody, what " + one, new ThoughtTax().tried(one, 0, 9), one == 2 ? -1 : 0);
        }
        for (int what = 0; what <= 4; what++) {
            KIT.due("tried(" + what + ", 0, 0)", Kit.busy().tried(what, 0, 0), 0);
            KIT.due("tried(" + what + ", 0, 99) is taken", Kit.busy().tried(what, 0, 99) >= 0, true);
        }
        for (int what : new int[] {-1, 5, Kit.LEAST, Kit.MOST}) {
            KIT.stays("tried(" + what + ", 0, 4)", x -> x.tried(what, 0, 4), -1);
        }
    }

    private static void triedOtherwise() {
        ThoughtTax x = in(1, "man a 999 9;man b 999 0;thought a 50 0 0;thought b 40 0 0;thought b 60 2 0;thought b 70 0 2;thought b 90 2 3;"
            + "reader r 8 1;reader s 5 7;rate 100;dull 1;");
        x.buy(1, 1);
        KIT.due("as it goes", x.ahead(4, 0), 0);
        KIT.due("0: nobody has wiles", x.tried(0, 0, 4), 50);
        KIT.due("1: no dull ones", x.tried(1, 0, 4), 70);
        KIT.due("2: a thinks nothing more", x.tried(2, 0, 4), 0);
        KIT.due("3: all tongues", x.tried(3, 0, 4), 0);
        KIT.due("4: all skill 9", x.tried(4, 0, 4), 70);
        KIT.due("in 2 no visit", x.tried(4, 0, 2), 0);
        KIT.due("in 3 a visit", x.tried(4, 0, 3), 70);
        KIT.due("in 7 another one", x.tried(1, 0, 7), 140);
        ThoughtTax y = in(1, "man a 999 0;man b 999 0;thought a 50 0 0;thought a 60 1 0;thought b 40 0 0;thought b 99 2 3;reader r 9 1;rate 100;");
        KIT.due("as it goes", y.ahead(4, 0), 100);
        KIT.due("a thinks nothing more, what is held stays", y.tried(2, 0, 4), 90);
        KIT.due("b thinks nothing more", y.tried(2, 1, 4), 100);
        KIT.due("all tongues", y.tried(3, 0, 4), 159);
        KIT.due("paid more alone", in(1, "man a 9 0;thought a 50 0 3;reader r 9 1;rate 100;").tried(3, 0, 4), 9);
        ThoughtTax held = in(1, "man a 999 9;thought a 50 0 0;reader r 9 1;law read 60;law due 1;");
        KIT.due("wiles hide for longer", held.ahead(30, 0), 4);
        KIT.due("nobody has wiles: gone sooner", held.tried(0, 0, 30), 2);
    }

    /** Read by just what is tried, by nothing beside it. */
    private static void triedJustSo() {
        String[] laws = {"wiles=0", "dulled=0", "week>=0", "week>=0", "skill=9"};
        for (int what = 0; what <= 4; what++) {
            ThoughtTax x = in(1, "man a 99 5;man b 99 5;thought a 9 0 3;thought b 9 0 0;reader r 5 8;reader s 5 1;dull 1;law due 7;law read 50*(" + laws[what] + ");");
            x.buy(0, 1);
            x.buy(1, 1);
            KIT.due("tried " + what, x.tried(what, 0, 3), 14);
            KIT.due("as it goes " + what, x.ahead(3, 0), what == 2 || what == 3 ? 14 : 0);
        }
        for (int tongue = 0; tongue <= 3; tongue++) {
            ThoughtTax x = Kit.told("man a 99 5;thought a 9 0 " + tongue + ";reader r 5 0;law due 7;law read 50;");
            KIT.due("tongue " + tongue + " isn't known", x.ahead(4, 0), 0);
            KIT.due("all know tongue " + tongue, x.tried(3, 0, 4), 7);
        }
        ThoughtTax x = Kit.told("man a 99 5;man b 99 5;thought a 9 3 0;thought b 9 3 0;thought a 9 7 0;reader r 5 1;law due 7;law read 100;law hide 0;");
        KIT.due("all think", x.ahead(8, 0), 21);
        KIT.due("a thinks nothing more, the first one neither", x.tried(2, 0, 8), 7);
        KIT.due("b thinks nothing more", x.tried(2, 1, 8), 14);
        x.weeks(4);
        KIT.due("paid more", x.tried(4, 0, 4), 7);
        KIT.due("a thinks nothing more than now", x.tried(2, 0, 4), 0);
        KIT.due("what was paid stays", x.count(8), 14);
    }

    /** By 50 of a hundred all is as by 100, by 49 as by 0, whatever the numbers are. */
    private static void asItGoes() {
        String street = "man a 30 0;man b 99 0;man c 25 0;thought a 40 0 0;thought b 60 0 0;thought a 50 3 0;thought b 70 9 0;thought c 20 1 0;thought a 10 5 0;"
            + "reader r 5 1;reader s 6 1;rate 50;law hide 30;law read ";
        for (int seed = 0; seed < 30; seed++) {
            String drawn = ";seed " + seed * 3001 + ";";
            for (int[] pair : new int[][] {{50, 100}, {49, 0}}) {
                ThoughtTax x = in(2, street + pair[0] + drawn);
                ThoughtTax y = in(2, street + pair[1] + drawn);
                for (int n : new int[] {1, 2, 3, 10, 40}) {
                    for (int what = 0; what <= 3; what++) {
                        KIT.due(pair[0] + ": ahead(" + n + ", " + what + ")", x.ahead(n, what), y.ahead(n, what));
                    }
                    for (int what = 0; what <= 1; what++) {
                        KIT.due(pair[0] + ": bestRate(" + n + ", " + what + ")", x.bestRate(n, what), y.bestRate(n, what));
                        KIT.due(pair[0] + ": vote(" + n + ", 40, " + what + ")", x.vote(n, 40, what), y.vote(n, 40, what));
                        KIT.due(pair[0] + ": vote(" + n + ", 60, " + what + ")", x.vote(n, 60, what), y.vote(n, 60, what));
                    }
                    KIT.due(pair[0] + ": richest(" + n + ")", x.richest(n), y.richest(n));
                    KIT.due(pair[0] + ": tried(0, 0, " + n + ")", x.tried(0, 0, n), y.tried(0, 0, n));
                }
                for (int what = 0; what <= 4; what++) {
                    KIT.due(pair[0] + ": bestRound(" + what + ")", x.bestRound(what), y.bestRound(what));
                }
                KIT.due(pair[0] + ": hideIn(0, 0)", x.hideIn(0, 0), y.hideIn(0, 0));
                KIT.due(pair[0] + ": hideIn(0, 1)", x.hideIn(0, 1), y.hideIn(0, 1));
                KIT.due(pair[0] + ": worthless", x.worthless(), y.worthless());
                KIT.due(pair[0] + ": nextRead(3)", x.nextRead(3), y.nextRead(3));
                KIT.due(pair[0] + ": enough(0)", x.enough(0), y.enough(0));
                x.find(4, 0, true);
                y.find(4, 0, true);
                KIT.due(pair[0] + ": skills(0)", x.skills(0), y.skills(0));
            }
        }
    }
}
