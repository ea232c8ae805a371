/** Promises 48 to 51. */
public final class KeptTest {
    private KeptTest() {
    }

    public static void main(String[] args) {
        keep();
        againIsWhole();
        count();
        row();
        Check.close();
    }

    private static void keep() {
        HeavierServes x = Check.with("40;50");
        Check.no("keep(3)", x.keep(3));
        Check.no("keep(-1)", x.keep(-1));
        Check.no("nothing kept", x.again(0));
        Check.no("again(3)", x.again(3));
        Check.no("again(-1)", x.again(-1));
        Check.yes("keep(0)", x.keep(0));
        x.feed(0, 5);
        Check.yes("keep(2)", x.keep(2));
        x.feed(0, 5);
        Check.no("nothing kept under 1", x.again(1));
        Check.yes("again(0)", x.again(0));
        Check.due("40", x.of(0, 0), 40);
        Check.yes("again(2)", x.again(2));
        Check.due("45", x.of(0, 0), 45);
        Check.yes("again once more", x.again(0));
        Check.due("40", x.of(0, 0), 40);
        Check.yes("keep(0) anew", x.keep(2));
        Check.yes("again(2)", x.again(2));
        Check.due("40", x.of(0, 0), 40);
        Check.town(x, "x");
        Check.town(x, "");
        Check.yes("nobody came", x.again(0));
        x.twin(0);
        Check.no("people came since", x.again(0));
        Check.yes("keep(0)", x.keep(0));
        Check.yes("again(0)", x.again(0));
        Check.town(x, "1");
        Check.no("people came since", x.again(0));
        HeavierServes empty = new HeavierServes();
        Check.yes("keep of nobody", empty.keep(1));
        empty.stand(0);
        Check.yes("again", empty.again(1));
        Check.due("week", empty.count(1), 0);
    }

    private static void againIsWhole() {
        HeavierServes x = Check.with("40+1;50;60");
        Check.year(x, "a;b");
        x.law();
        x.weighed(0, 1);
        x.keep(1);
        x.stand(4);
        x.law();
        x.dies(2);
        x.dies(0);
        x.feed(1, 9);
        x.set(2, 1, 4);
        x.scale(0, 3);
        x.weighed(1, 1);
        Check.will(x, "w=7");
        Check.yes("again", x.again(1));
        long[] due = {3, 2, 1, 1, 1, 1, 7, 0, 2, 0, 2, 0, 3, 0};
        for (int what = 0; what < due.length; what++) {
            Check.due("count(" + what + ")", x.count(what), due[what]);
        }
        Check.due("weight", x.of(0, 0), 42);
        Check.due("weight", x.of(1, 0), 50);
        Check.due("weeks", x.of(2, 4), 0);
        Check.due("holds", x.laws(0, 3), -1);
        Check.due("served", x.served(1), 1);
        Check.due("not yet", x.served(2), -2);
        Check.due("ill stays", x.of(1, 2), 4);
        Check.due("the will stays", x.of(1, 6), 0);
    }

    private static void count() {
        HeavierServes x = Check.with("40;50;60");
        x.stand(1);
        x.stand(0);
        x.law();
        x.dies(1);
        x.weighed(0, 40);
        x.told(0, 1);
        x.told(0, 2);
        x.scale(0, 4);
        x.scale(1, -4);
        x.sign(0);
        x.then(2);
        long[] due = {3, 2, 0, 2, 1, 1, 5, 4, 1, 2, 3, 4, 4, -4};
        for (int what = 0; what < due.length; what++) {
            Check.due("count(" + what + ")", x.count(what), due[what]);
        }
        Check.due("count(14)", x.count(14), -100);
        Check.due("count(-1)", x.count(-1), -100);
        Check.due("count(MIN)", x.count(Integer.MIN_VALUE), -100);
    }

    private static void row() {
        HeavierServes x = Check.with("40;50;60");
        Check.noSuch("row(0) of none", () -> x.row(0));
        x.then(3);
        Check.row("then", x, 0, 0, 3);
        Check.noSuch("row(-1)", () -> x.row(-1));
        Check.noSuch("row(MAX)", () -> x.row(Integer.MAX_VALUE));
        x.feed(0, 1);
        x.hold(1);
        x.soonest(0);
        x.grains();
        Check.row("calls that tell none", x, 0, 0, 3);
    }
}
