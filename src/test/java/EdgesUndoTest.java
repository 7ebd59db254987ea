/** The edges that part 4 and promises 41 to 44 name: what can be undone, images, counts. */
public final class EdgesUndoTest {
    private static final Kit KIT = new Kit("EdgesUndoTest");

    public static void main(String[] args) {
        undo();
        undoEachKind();
        twenty();
        ifNoWeekWentBy();
        keep();
        back();
        imagesKeepAllButFound();
        count();
        KIT.end();
    }

    private static void undo() {
        KIT.stays("none at first", ThoughtTax::new, ThoughtTax::undo, -1);
        KIT.stays("none behind a text", () -> Kit.told(Kit.STREET), ThoughtTax::undo, -1);
        ThoughtTax x = Kit.busy();
        for (int left = 3; left >= 0; left--) {
            KIT.due("how many are left", x.undo(), left);
            KIT.due("what can be undone", x.count(12), left);
        }
        KIT.due("none", x.undo(), -1);
        KIT.due("none again", x.undo(), -1);
        KIT.due("how many", x.count(12), 0);
        KIT.due("find, strike, known can't be undone", x.count(10) * 10 + x.count(11), 32);
        KIT.due("an undone one can be done again", x.rate(62), true);
        KIT.due("and undone", x.undo(), 0);
    }

    private static ThoughtTax street() {
        ThoughtTax x = Kit.told(Kit.STREET);
        x.weeks(2);
        return x;
    }

    private static void undone(String what, Kit.Call call) {
        KIT.stays("undone: " + what, EdgesUndoTest::street, x -> {
            KIT.due(what, call.of(x) > 0, true);
            return x.undo();
        }, 0);
    }

    private static void undoEachKind() {
        undone("hide", x -> x.hide(0, 2) ? 1 : 0);
        undone("buy one", x -> x.buy(0, 1));
        undone("buy nine", x -> x.buy(0, 9));
        undone("round", x -> x.round(0, 1) ? 1 : 0);
        undone("rate 0", x -> x.rate(0) ? 1 : 0);
        undone("rate 100", x -> x.rate(100) ? 1 : 0);
        KIT.stays("all of them, the latest first", EdgesUndoTest::street, x -> {
            x.hide(0, 2);
            x.hide(0, 1);
            x.buy(0, 2);
            x.buy(1, 3);
            x.buy(0, 4);
            x.round(1, 0);
            x.round(1, 1);
            x.rate(3);
            x.rate(4);
            x.hide(0, 0);
            for (int left = 9; left > 0; left--) {
                KIT.due("left", x.undo(), left);
            }
            return x.undo();
        }, 0);
    }

    private static void twenty() {
        for (int many = 18; many <= 24; many++) {
            ThoughtTax x = new ThoughtTax();
            for (int i = 1; i <= many; i++) {
                KIT.due("rate " + i + " of " + many, x.rate(40 + i), true);
            }
            int most = Math.min(many, 20);
            KIT.due(many + " done, can be undone", x.count(12), most);
            for (int left = most - 1; left >= 0; left--) {
                KIT.due(many + " done, left", x.undo(), left);
            }
            KIT.due(many + " done, none", x.undo(), -1);
            KIT.due(many + " done, the oldest ones stay", x.count(5), many > 20 ? 40 + many - 20 : 20);
        }
        ThoughtTax kinds = Kit.told("man a 999 0;man b 999 0;reader r 1 1;reader s 1 1;dull 1;");
        kinds.buy(0, 1);
        kinds.round(0, 1);
        for (int i = 0; i < 5; i++) {
            kinds.rate(50 + i);
            kinds.buy(1, 1);
            kinds.round(1, i % 2);
            kinds.rate(60 + i);
        }
        for (int i = 0; i < 20; i++) {
            kinds.undo();
        }
        KIT.due("the purses", kinds.man(0, 0) * 1000 + kinds.man(1, 0), 998999);
        KIT.due("dull ones", kinds.man(0, 4) * 10 + kinds.man(1, 4), 10);
        KIT.due("the rounds", kinds.man(0, 5) * 10 + kinds.man(1, 5), 11);
        KIT.due("the rate", kinds.count(5), 20);
        KIT.due("no more", kinds.undo(), -1);
    }

    private static void ifNoWeekWentBy() {
        ThoughtTax x = Kit.busy();
        x.weeks(0);
        KIT.due("no week went by", x.count(12), 4);
        x.weeks(100);
        KIT.due("nor with a number that is none", x.count(12), 4);
        x.weeks(1);
        KIT.due("one went by", x.count(12), 0);
        KIT.due("none", x.undo(), -1);
        KIT.due("it stays", x.count(5), 61);
        x.rate(5);
        KIT.due("what is done since", x.undo(), 0);
        KIT.due("is undone alone", x.count(5), 61);
    }

    private static void keep() {
        KIT.due("a new object's week", new ThoughtTax().keep(), 0);
        KIT.due("a busy one's week", Kit.busy().keep(), 7);
        ThoughtTax x = Kit.busy();
        x.keep();
        KIT.due("what can be undone stays", x.count(12), 4);
        x.undo();
        x.weeks(3);
        KIT.due("in place of the one ahead", x.back(), 7);
        KIT.due("as it was then", x.count(5), 61);
        ThoughtTax empty = new ThoughtTax();
        empty.keep();
        empty.rate(5);
        empty.weeks(9);
        KIT.due("a text without lines, too", empty.back(), 0);
        KIT.due("its rate", empty.count(5), 20);
    }

    private static void back() {
        KIT.stays("there is none at first", ThoughtTax::new, ThoughtTax::back, -1);
        KIT.stays("there is none behind a text", () -> {
            ThoughtTax x = Kit.busy();
            x.text(0);
            Kit.tell(x, Kit.STREET);
            x.weeks(4);
            x.rate(9);
            return x;
        }, ThoughtTax::back, -1);
        ThoughtTax x = Kit.busy();
        KIT.due("back", x.back(), 5);
        KIT.due("nothing to undo", x.count(12), 0);
        KIT.due("nothing is undone", x.undo(), -1);
        x.weeks(50);
        KIT.due("back once more", x.back(), 5);
        KIT.due("back at once", x.back(), 5);
        KIT.due("a fault leaves it", Kit.tell(x, "x"), -1);
        ThoughtTax y = Kit.busy();
        y.text(3);
        KIT.due("a text with a fault leaves the image", y.back(), 5);
        y = Kit.busy();
        y.text(0);
        KIT.due("a text without lines leaves none", y.back(), -1);
    }

    /** Behind back() all is as it was at keep(), but for what was found since. */
    private static void imagesKeepAllButFound() {
        ThoughtTax x = street();
        x.buy(0, 3);
        x.hide(1, 2);
        x.round(0, 1);
        x.rate(77);
        x.keep();
        x.undo();
        x.undo();
        x.undo();
        x.undo();
        x.buy(1, 5);
        x.rate(1);
        x.weeks(30);
        x.find(4, 0, true);
        x.back();
        ThoughtTax y = street();
        y.buy(0, 3);
        y.hide(1, 2);
        y.round(0, 1);
        y.rate(77);
        y.keep();
        y.back();
        y.find(4, 0, true);
        KIT.due("all is as in the image", Kit.all(x), Kit.all(y));
        ThoughtTax busy = Kit.busy();
        busy.back();
        KIT.due("found, too, since", busy.count(10), 3);
        KIT.due("and the next one's number", busy.find(1, 0, false), 3);
    }

    private static void count() {
        for (int what : new int[] {-1, 13, Kit.LEAST, Kit.MOST}) {
            KIT.stays("count(" + what + ")", x -> x.count(what), -1);
        }
        int[] busy = {3, 4, 2, 4, 7, 61, 4, 0, 100, 20, 3, 2, 4};
        int[] fresh = {0, 0, 0, 0, 0, 20, 0, 0, 0, 0, 0, 0, 0};
        ThoughtTax x = Kit.busy();
        for (int what = 0; what <= 12; what++) {
            KIT.due("a busy one's count(" + what + ")", x.count(what), busy[what]);
            KIT.due("a new one's count(" + what + ")", new ThoughtTax().count(what), fresh[what]);
        }
        ThoughtTax full = Kit.told("man a 0 0;man b 5 0;man c 9 0;man d 9 0;man e 9 0;man f 9 0;" + "thought a 9 0 0;thought b 9 0 0;".repeat(5)
            + "thought f 9 0 0;thought f 9 99 0;reader p 9 1;reader q 9 1;reader r 9 1;reader s 9 1;law read 100;law due 7;law hide 3;");
        full.weeks(4);
        int[] due = {6, 12, 4, 3, 4, 20, 11, 0, 12, 9, 0, 0, 0};
        for (int what = 0; what <= 12; what++) {
            KIT.due("a full one's count(" + what + ")", full.count(what), due[what]);
        }
        full.weeks(1);
        KIT.due("gone", full.count(7), 11);
        KIT.due("held", full.count(6), 0);
    }
}
