/** Promises 12 to 21. */
public final class WeeksTest {
    private WeeksTest() {
    }

    public static void main(String[] args) {
        stand();
        standByScale();
        standHabits();
        weeks();
        year();
        yearFaults();
        law();
        feedAndFast();
        dies();
        undo();
        undoIsWhole();
        undoForgets();
        served();
        Check.close();
    }

    private static void stand() {
        HeavierServes x = Check.with("40;50;50;60");
        Check.due("bits of none such", x.stand(16), -2);
        Check.due("bits of none such", x.stand(-1), -2);
        Check.due("bits of none such", x.stand(Integer.MIN_VALUE), -2);
        Check.due("no week went by", x.count(1), 0);
        Check.row("no row", x);
        Check.due("nobody stands", x.stand(0), -1);
        Check.row("nobody", x, 0, 0);
        Check.due("the lightest alone", x.stand(1), 0);
        Check.row("the lightest", x, 1, 0);
        Check.due("of equal ones the first", x.stand(6), 1);
        Check.due("an equal one", x.stand(4), 1);
        Check.row("an equal one", x, 0, 0);
        x.law();
        x.law();
        Check.due("a lighter one", x.stand(1), 1);
        Check.due("who serves does not stand", x.stand(2), 1);
        Check.due("the heaviest", x.stand(15), 3);
        Check.row("the heaviest", x, 1, 2);
        Check.due("refused", x.stand(255), -2);
        Check.row("the row stays", x, 1, 2);
        x.dies(3);
        Check.due("one not alive does not stand", x.stand(8), -1);
        Check.due("weeks", x.count(1), 8);
        Check.due("weeks of 1", x.of(1, 4), 4);
        Check.due("weeks of 3", x.of(3, 4), 1);
    }

    private static void standByScale() {
        HeavierServes x = Check.with("41;45;49;50");
        x.scale(0, 5);
        x.stand(1);
        Check.due("45 and 49 show as much", x.stand(6), 1);
        Check.due("49 shows no more", x.stand(4), 1);
        Check.due("50 does", x.stand(8), 3);
        x = Check.with("3;7;9");
        x.scale(1, -8);
        Check.due("what shows 0 serves, if nobody does", x.stand(1), 0);
        Check.due("what shows 0, too, does not", x.stand(2), 0);
        Check.due("what shows 1 does", x.stand(4), 2);
    }

    private static void standHabits() {
        HeavierServes x = Check.with("10+1-2+3;3-9;995+9;20");
        x.dies(3);
        int[] first = {11, 9, 12, 13};
        for (int k = 0; k < 4; k++) {
            x.stand(0);
            Check.due("weight after " + k, x.of(0, 0), first[k]);
            Check.due("1 at least", x.of(1, 0), 1);
            Check.due("999 at most", x.of(2, 0), 999);
        }
        x = Check.with("10+5;10");
        Check.due("weights change behind the choice", x.stand(3), 0);
        x = Check.with("10;10+5+5");
        x.dies(1);
        x.stand(0);
        Check.due("not alive: no change", x.of(1, 0), 10);
    }

    private static void weeks() {
        HeavierServes x = Check.with("40+2;50;60-5", "n>0");
        Check.due("weeks(-1)", x.weeks(-1), -1);
        Check.due("weeks(100)", x.weeks(100), -1);
        Check.due("0 weeks", x.weeks(0), 0);
        Check.row("0 weeks", x, -1, 0);
        Check.due("nobody wills", x.weeks(1), 0);
        Check.row("nobody wills", x, -1, 0);
        Check.due("one", x.weeks(1), 1);
        Check.row("the heaviest", x, 2, 0);
        x.law();
        x.law();
        x.law();
        // 44, 50, 50; then 46, 50, 45: 1; then 48, 50; 50, 50; 52: 0 in the fifth.
        Check.due("on", x.weeks(6), 2);
        Check.row("on", x, 0, 3);
        Check.due("weeks", x.count(1), 8);
        Check.due("99 weeks", x.weeks(99), 0);
        Check.due("weeks", x.count(1), 107);
    }

    private static void year() {
        HeavierServes x = Check.with("40;50;60");
        Check.due("an empty one", Check.year(x, ""), 0);
        Check.row("an empty one", x, -1, 0);
        Check.due("no step", x.count(7), 0);
        Check.due("two of nobody", Check.year(x, ";"), 2);
        Check.row("two of nobody", x, -1, 0);
        Check.due("three", Check.year(x, "a;;ab"), 3);
        Check.row("three", x, 1, 0);
        Check.due("the text is gone", x.count(11), 0);
        Check.due("weeks", x.count(1), 5);
        Check.due("one is not there", Check.year(x, "a;bc;ad;a"), 2);
        Check.row("one is not there", x, 2, 1);
        Check.due("at first", Check.year(x, "h;a"), 0);
        Check.row("at first", x, 2, 1);
        Check.due("weeks", x.count(1), 7);
        Check.due("steps", x.count(7), 3);
        x.dies(0);
        Check.due("one not alive is there", Check.year(x, "a;a"), 2);
        Check.row("one not alive", x, 2, 0);
        Check.due("60 signs", Check.year(x, Check.times(";", 60)), 61);
        HeavierServes all = Check.with("1;2;3;4;5;6;7;8");
        Check.due("all eight", Check.year(all, "abcdefgh"), 1);
        Check.row("all eight", all, 7, 0);
    }

    private static void yearFaults() {
        String[] texts = {"x", "aa", "ba", "a;ba", "ab;i", "A", "a;b a", Check.times(";", 60) + "x", Check.times(";", 60) + "a",
            Check.times(";", 59) + "x;", "h;x", "a`"};
        int[] places = {0, 1, 1, 3, 3, 0, 3, 60, 60, 59, 2, 1};
        for (int k = 0; k < texts.length; k++) {
            HeavierServes x = Check.with("40;50");
            Check.due("year " + texts[k], Check.year(x, texts[k]), -1 - places[k]);
            Check.due("nothing goes by", x.count(1), 0);
            Check.due("the text is gone", x.count(11), 0);
            Check.due("no step", x.count(7), 0);
            Check.row("no row", x);
        }
    }

    private static void law() {
        HeavierServes x = Check.with("40;50");
        Check.due("nobody serves", x.law(), -2);
        x.stand(1);
        Check.due("law 0", x.law(), 0);
        x.stand(1);
        Check.due("law 1", x.law(), 1);
        Check.due("hold", x.count(5), 3);
        long[] due = {0, 2, 1, -1};
        for (int what = 0; what < 4; what++) {
            Check.due("laws(1, " + what + ")", x.laws(1, what), due[what]);
        }
        x.stand(0);
        x.stand(2);
        long[] fallen = {0, 1, 0, 3};
        for (int what = 0; what < 4; what++) {
            Check.due("laws(0, " + what + ")", x.laws(0, what), fallen[what]);
        }
        Check.due("none hold", x.count(5), 0);
        for (int k = 2; k < 12; k++) {
            Check.due("law", x.law(), k);
        }
        Check.due("12 are there", x.law(), -3);
        Check.due("laws", x.count(4), 12);
        Check.due("hold", x.count(5), 0xFFC);
        HeavierServes y = x;
        Check.noSuch("laws(12, 0)", () -> y.laws(12, 0));
        Check.noSuch("laws(-1, 0)", () -> y.laws(-1, 0));
        Check.noSuch("laws(0, 4)", () -> y.laws(0, 4));
        Check.noSuch("laws(0, -1)", () -> y.laws(0, -1));
        x.dies(1);
        Check.due("nobody serves, 12 there", x.law(), -2);
    }

    private static void feedAndFast() {
        HeavierServes x = Check.with("40;950");
        Check.due("feed", x.feed(0, 1), 41);
        Check.due("feed", x.feed(0, 99), 140);
        Check.due("999 at most", x.feed(1, 50), 999);
        Check.due("feed 0", x.feed(0, 0), -1);
        Check.due("feed 100", x.feed(0, 100), -1);
        Check.due("feed none such", x.feed(2, 1), -1);
        Check.due("feed none such", x.feed(-1, 1), -1);
        Check.due("fast", x.fast(0, 99), 41);
        Check.due("1 at least", x.fast(0, 41), 1);
        Check.due("1 at least", x.fast(0, 1), 1);
        Check.due("fast 0", x.fast(0, 0), -1);
        Check.due("fast 100", x.fast(0, 100), -1);
        Check.due("fast -1", x.fast(0, -1), -1);
        Check.due("fast none such", x.fast(2, 1), -1);
        Check.due("steps", x.count(7), 6);
        x.dies(0);
        Check.due("not alive", x.feed(0, 1), -1);
        Check.due("not alive", x.fast(0, 1), -1);
        Check.due("steps", x.count(7), 7);
    }

    private static void dies() {
        HeavierServes x = Check.with("40+1;50;60");
        x.stand(2);
        x.law();
        x.law();
        Check.due("another one", x.dies(2), 0);
        Check.due("hold", x.count(5), 3);
        Check.due("who serves", x.dies(1), 2);
        Check.due("nobody", x.count(2), -1);
        Check.due("for no weeks", x.count(3), 0);
        Check.due("none hold", x.count(5), 0);
        Check.due("in this week", x.laws(1, 3), 1);
        Check.due("alive", x.count(6), 1);
        Check.due("not alive", x.dies(1), -1);
        Check.due("none such", x.dies(3), -1);
        Check.due("none such", x.dies(-1), -1);
        Check.due("steps", x.count(7), 5);
        Check.due("the last one", x.stand(7), 0);
    }

    private static void undo() {
        HeavierServes x = Check.with("40;50+1");
        Check.due("none", x.undo(), -1);
        for (int k = 0; k < 25; k++) {
            x.feed(0, 1);
        }
        Check.due("20 are kept", x.count(7), 20);
        for (int k = 19; k >= 0; k--) {
            Check.due("undo", x.undo(), k);
        }
        Check.due("the latest ones", x.of(0, 0), 45);
        Check.due("none", x.undo(), -1);
        x.weeks(0);
        x.feed(0, 0);
        x.stand(4);
        x.law();
        x.weeks(100);
        Check.due("refused ones do not count", x.count(7), 0);
        x.weeks(7);
        Check.year(x, "a;b;c");
        Check.due("two", x.count(7), 2);
        Check.due("weeks", x.count(1), 9);
        Check.due("undo", x.undo(), 1);
        Check.due("weeks", x.count(1), 7);
        Check.due("undo", x.undo(), 0);
        Check.due("weeks", x.count(1), 0);
        Check.due("weight", x.of(1, 0), 50);
    }

    private static void undoIsWhole() {
        HeavierServes x = Check.with("40;50+1;60");
        x.stand(1);
        x.stand(2);
        x.law();
        x.law();
        x.stand(4);
        x.law();
        x.dies(2);
        Check.due("undo dies", x.undo(), 6);
        Check.due("alive", x.count(6), 7);
        Check.due("serves", x.count(2), 2);
        Check.due("since", x.count(3), 1);
        Check.due("holds", x.count(5), 4);
        Check.due("fell", x.laws(2, 3), -1);
        Check.due("undo law", x.undo(), 5);
        Check.due("laws", x.count(4), 2);
        Check.due("undo stand", x.undo(), 4);
        Check.due("serves", x.count(2), 1);
        Check.due("since", x.count(3), 1);
        Check.due("holds", x.count(5), 3);
        Check.due("fell", x.laws(0, 3), -1);
        Check.due("served", x.served(1), 1);
        Check.due("not yet", x.served(2), -2);
        Check.due("weight", x.of(1, 0), 52);
        Check.due("weeks served", x.of(1, 4), 1);
        Check.due("weeks served", x.of(2, 4), 0);
        x.feed(0, 5);
        x.set(2, 0, 4);
        x.set(1, 0, 3);
        Check.row("the row before", x, 1, 2);
        x.undo();
        Check.due("ill is not undone", x.of(0, 2), 4);
        Check.due("party is not undone", x.of(0, 1), 3);
        Check.row("the row stays", x, 1, 2);
    }

    private static void undoForgets() {
        HeavierServes x = Check.with("40;50");
        x.feed(0, 1);
        x.keep(0);
        Check.town(x, "");
        Check.town(x, "1;");
        x.twin(5);
        x.again(1);
        Check.due("nothing forgotten", x.count(7), 1);
        x.again(0);
        Check.due("again forgets", x.count(7), 0);
        x.feed(0, 1);
        x.twin(0);
        Check.due("twin forgets", x.count(7), 0);
        x.feed(0, 1);
        Check.town(x, "1");
        Check.due("town forgets", x.undo(), -1);
    }

    private static void served() {
        HeavierServes x = Check.with("40;50");
        Check.due("not yet", x.served(0), -2);
        Check.year(x, ";a;;b");
        long[] due = {-1, 0, 0, 1, -2};
        for (int week = 0; week < 5; week++) {
            Check.due("served(" + week + ")", x.served(week), due[week]);
        }
        Check.due("served(-1)", x.served(-1), -2);
        x.weeks(57);
        Check.due("61 weeks", x.count(1), 61);
        Check.due("not known any more", x.served(0), -2);
        Check.due("the last 60", x.served(1), 0);
        Check.due("the latest", x.served(60), 1);
        Check.due("not yet", x.served(61), -2);
        x.weeks(99);
        Check.due("not known", x.served(99), -2);
        Check.due("known", x.served(100), 1);
        x.undo();
        Check.due("known again", x.served(2), 0);
        Check.due("MAX_VALUE", x.served(Integer.MAX_VALUE), -2);
        Check.due("MIN_VALUE", x.served(Integer.MIN_VALUE), -2);
    }
}
