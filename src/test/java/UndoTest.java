/** Promises 41 to 44: what is undone, images, counts. */
public final class UndoTest {
    private static final Kit KIT = new Kit("UndoTest");

    public static void main(String[] args) {
        undoing();
        twentyAtMost();
        images();
        imagesKeepNumbers();
        counts();
        KIT.end();
    }

    private static void undoing() {
        ThoughtTax x = Kit.told(Kit.STREET);
        KIT.due("nothing", x.undo(), -1);
        x.weeks(1);
        x.hide(0, 2);
        x.buy(0, 3);
        x.buy(0, 2);
        x.round(0, 1);
        x.rate(3);
        x.hide(0, 1);
        KIT.due("refused ones don't count", x.hide(0, 1) || x.rate(3) || x.round(0, 1) || x.buy(0, 9) > 0, false);
        KIT.due("six", x.count(12), 6);
        KIT.due("a hiding", x.undo(), 5);
        KIT.due("who holds it", x.thought(0, 5), 2);
        KIT.due("a rate", x.undo(), 4);
        KIT.due("which", x.count(5), 50);
        KIT.due("a round", x.undo(), 3);
        KIT.due("whose", x.man(0, 5), 0);
        KIT.due("a buying", x.undo(), 2);
        KIT.due("dull ones", x.man(0, 4), 3);
        KIT.due("the purse", x.man(0, 0), 88);
        KIT.due("the buying ahead of it", x.undo(), 1);
        KIT.due("no dull ones", x.man(0, 4), 0);
        KIT.due("the purse as it was", x.man(0, 0), 100);
        KIT.due("the first hiding", x.undo(), 0);
        KIT.due("it is back", x.thought(0, 5), 0);
        KIT.due("none is left", x.undo(), -1);
        x.rate(3);
        x.weeks(1);
        KIT.due("a week went by", x.undo(), -1);
        KIT.due("the rate stays", x.count(5), 3);
    }

    private static void twentyAtMost() {
        ThoughtTax x = new ThoughtTax();
        for (int rate = 1; rate <= 20; rate++) {
            x.rate(rate + 30);
        }
        KIT.due("twenty", x.count(12), 20);
        x.rate(60);
        x.rate(61);
        KIT.due("twenty yet", x.count(12), 20);
        for (int left = 19; left >= 0; left--) {
            KIT.due("undone", x.undo(), left);
        }
        KIT.due("the two first ones stay", x.count(5), 32);
        KIT.due("no more", x.undo(), -1);
        ThoughtTax mixed = Kit.told("man a 999 0;reader r 1 1;reader s 1 1;dull 1;");
        mixed.round(0, 1);
        for (int i = 0; i < 5; i++) {
            mixed.rate(30 + i);
            mixed.buy(0, 1);
            mixed.round(0, i % 2);
            mixed.rate(60 + i);
        }
        KIT.due("twenty of unlike kinds", mixed.count(12), 20);
        for (int i = 0; i < 20; i++) {
            mixed.undo();
        }
        KIT.due("the rate at first", mixed.count(5), 20);
        KIT.due("the purse at first", mixed.man(0, 0), 999);
        KIT.due("no dull ones as at first", mixed.man(0, 4), 0);
        KIT.due("the round behind the first one", mixed.man(0, 5), 1);
    }

    private static void images() {
        ThoughtTax x = Kit.told(Kit.STREET);
        KIT.due("none", x.back(), -1);
        x.weeks(3);
        x.rate(60);
        KIT.due("kept", x.keep(), 3);
        KIT.due("keeping leaves what can be undone", x.count(12), 1);
        x.hide(0, 1);
        x.buy(0, 2);
        x.round(0, 1);
        x.rate(70);
        x.weeks(9);
        x.rate(71);
        KIT.due("back", x.back(), 3);
        KIT.due("the week", x.count(4), 3);
        KIT.due("nothing to undo", x.count(12), 0);
        KIT.due("the rate", x.count(5), 60);
        KIT.due("who holds it", x.thought(0, 5), 0);
        KIT.due("its state", x.thought(0, 4), 1);
        KIT.due("whether it was read", x.thought(0, 6), 0);
        KIT.due("dull ones", x.man(0, 4), 0);
        KIT.due("the purse", x.man(0, 0), 100);
        KIT.due("the round", x.man(0, 5), 0);
        KIT.due("paid", x.count(8), 0);
        x.weeks(4);
        KIT.due("back once more", x.back(), 3);
        x.weeks(5);
        KIT.due("another image in its place", x.keep(), 8);
        x.weeks(1);
        KIT.due("back to that one", x.back(), 8);
        x.find(1, 0, true);
        x.strike(0);
        x.back();
        KIT.due("what was found stays", x.count(10), 2);
    }

    private static void imagesKeepNumbers() {
        ThoughtTax x = Kit.told("man a 999 0;thought a 9 0 0;thought a 19 0 0;thought a 29 0 0;thought a 39 0 0;reader r 5 1;rate 100;seed 5;law hide 99;");
        x.weeks(2);
        x.keep();
        int[] first = new int[8];
        for (int i = 0; i < 8; i++) {
            x.weeks(4);
            first[i] = x.count(8);
        }
        x.back();
        for (int i = 0; i < 8; i++) {
            x.weeks(4);
            KIT.due("the same numbers again", x.count(8), first[i]);
        }
    }

    private static void counts() {
        ThoughtTax x = Kit.told(Kit.STREET + "law read 100;law due worth+1;");
        x.weeks(12);
        x.rate(1);
        x.find(1, 1, true);
        x.find(1, 1, true);
        x.known(1);
        int[] due = {3, 4, 2, 4, 12, 1, 2, 2, 150, 65, 2, 1, 1};
        for (int what = 0; what < due.length; what++) {
            KIT.due("count(" + what + ")", x.count(what), due[what]);
        }
        KIT.due("count(13)", x.count(13), -1);
        KIT.due("count(-1)", x.count(-1), -1);
    }
}
