/** The boundary cases of promises 48 to 51, each by a test of its own. */
public final class KeptEdgesTest {
    private KeptEdgesTest() {
    }

    public static void main(String[] args) {
        keepBounds();
        keepAnew();
        keepRefused();
        keepAllThatChanges();
        keepTwoPasts();
        againNothingKept();
        againPeopleCame();
        againMoreThanOnce();
        againOfOtherNumbers();
        againLeavesTheRest();
        countBounds();
        countAnotherWhat();
        countWithoutServing();
        rowBounds();
        rowNoneSuch();
        Check.close();
    }

    /** "kept under a number 0 .. 2: true" */
    private static void keepBounds() {
        HeavierServes x = Check.with("40;50");
        for (int i = 0; i < 3; i++) {
            Check.yes("keep(" + i + ")", x.keep(i));
            x.feed(0, 1);
        }
        for (int i = 2; i >= 0; i--) {
            Check.yes("again(" + i + ")", x.again(i));
            Check.due("weight", x.of(0, 0), 40 + i);
        }
        HeavierServes nobody = new HeavierServes();
        Check.yes("keep of nobody", nobody.keep(2));
        nobody.weeks(9);
        Check.yes("again of nobody", nobody.again(2));
        Check.due("week", nobody.count(1), 0);
    }

    private static void keepAnew() {
        HeavierServes x = Check.with("40;50");
        x.keep(1);
        x.feed(0, 1);
        x.keep(1);
        x.feed(0, 1);
        x.again(1);
        Check.due("the latest kept", x.of(0, 0), 41);
    }

    /** "Refused: others." */
    private static void keepRefused() {
        for (int i : Alike.outside(0, 2)) {
            Alike.refused("keep(" + i + ")", Alike::some, 0, x -> Alike.bit(x.keep(i)));
            Alike.refused("keep(" + i + ") of nobody", Alike::fresh, 0, x -> Alike.bit(x.keep(i)));
        }
    }

    /** "All that weeks, cakes, LAWS change" */
    private static void keepAllThatChanges() {
        HeavierServes x = Alike.some();
        x.keep(2);
        x.stand(4);
        x.weeks(70);
        x.law();
        x.feed(2, 50);
        x.fast(1, 9);
        x.dies(0);
        x.dies(2);
        Check.yes("again", x.again(2));
        HeavierServes y = Alike.some();
        for (int what = 0; what < 7; what++) {
            Check.due("count(" + what + ")", x.count(what), y.count(what));
        }
        Check.due("nothing to undo", x.count(7), 0);
        for (int p = 0; p < 4; p++) {
            for (int what = 0; what < 8; what++) {
                Check.due("of(" + p + ", " + what + ")", x.of(p, what), y.of(p, what));
            }
        }
        for (int law = 0; law < 3; law++) {
            for (int what = 0; what < 4; what++) {
                Check.due("laws(" + law + ", " + what + ")", x.laws(law, what), y.laws(law, what));
            }
        }
        for (int week = -1; week < 4; week++) {
            Check.due("served(" + week + ")", x.served(week), y.served(week));
        }
    }

    /** Two pasts that part: LAWS and WEEKS of the one do not come into the other. */
    private static void keepTwoPasts() {
        HeavierServes x = Check.with("40;50;60");
        x.keep(0);
        x.stand(1);
        x.law();
        x.stand(0);
        x.law();
        x.keep(1);
        x.again(0);
        Check.due("laws", x.count(4), 0);
        x.stand(0);
        x.stand(2);
        x.stand(0);
        x.law();
        x.law();
        x.stand(4);
        x.keep(2);
        x.again(1);
        long[][] one = {{0, 1, 1, -1}, {0, 2, 1, -1}};
        long[][] other = {{1, 3, 0, 3}, {1, 3, 0, 3}};
        pastLaws("the one", x, one);
        Check.due("served in 0", x.served(0), 0);
        Check.due("served in 1", x.served(1), 0);
        Check.due("not yet", x.served(2), -2);
        x.again(2);
        pastLaws("the other", x, other);
        Check.due("served in 0", x.served(0), -1);
        Check.due("served in 1", x.served(1), 1);
        Check.due("served in 3", x.served(3), 2);
    }

    private static void pastLaws(String what, HeavierServes x, long[][] due) {
        Check.due(what + ": laws", x.count(4), due.length);
        for (int law = 0; law < due.length; law++) {
            for (int k = 0; k < 4; k++) {
                Check.due(what + ": laws(" + law + ", " + k + ")", x.laws(law, k), due[law][k]);
            }
        }
    }

    /** "Refused: nothing kept" */
    private static void againNothingKept() {
        Alike.refused("nothing kept under 2", Alike::some, 0, x -> Alike.bit(x.again(2)));
        for (int i = 0; i < 3; i++) {
            int k = i;
            Alike.refused("nothing kept under " + i, Alike::fresh, 0, x -> Alike.bit(x.again(k)));
            Alike.refused("nothing kept under " + i, Alike::full, 0, x -> Alike.bit(x.again(k)));
        }
    }

    /** "Refused: .. PEOPLE came since" */
    private static void againPeopleCame() {
        Alike.refused("a twin came since", () -> {
            HeavierServes x = Alike.some();
            x.twin(0);
            return x;
        }, 0, x -> Alike.bit(x.again(0)));
        Alike.refused("people came since", () -> {
            HeavierServes x = Alike.some();
            Check.town(x, "5");
            Check.type(x, "w=50");
            return x;
        }, 0, x -> Alike.bit(x.again(1)));
        Alike.refused("people came to nobody since", () -> {
            HeavierServes x = new HeavierServes();
            x.keep(0);
            Check.town(x, "5");
            return x;
        }, 0, x -> Alike.bit(x.again(0)));
        HeavierServes x = Alike.some();
        Check.town(x, "");
        Check.town(x, "5;");
        x.twin(3);
        Check.yes("nobody came", x.again(0));
        x.twin(0);
        x.keep(0);
        Check.yes("kept since", x.again(0));
        Check.no("kept before", x.again(1));
    }

    private static void againMoreThanOnce() {
        HeavierServes x = Alike.some();
        for (int k = 0; k < 3; k++) {
            Check.yes("again", x.again(0));
            Check.due("weight", x.of(1, 0), 50);
            x.feed(1, 7);
            Check.due("weight", x.of(1, 0), 57);
        }
    }

    private static void againOfOtherNumbers() {
        for (int i : Alike.outside(0, 2)) {
            Alike.refused("again(" + i + ")", Alike::some, 0, x -> Alike.bit(x.again(i)));
            Alike.refused("again(" + i + ") of nobody", Alike::fresh, 0, x -> Alike.bit(x.again(i)));
        }
    }

    /** What weeks, cakes and LAWS do not change stays as it is. */
    private static void againLeavesTheRest() {
        HeavierServes x = Alike.some();
        x.set(1, 1, 0);
        x.set(2, 1, 8);
        x.scale(0, 7);
        x.scale(1, -7);
        x.weighed(1, 9);
        x.told(1, 9);
        Check.habit(x, 1, "+1");
        Check.will(x, "w");
        x.sign(0);
        x.then(2);
        Check.yes("again", x.again(0));
        Check.due("party", x.of(1, 1), 0);
        Check.due("ill", x.of(1, 2), 8);
        Check.due("habit", x.change(1, 0), 1);
        Check.due("will", x.of(1, 6), 50);
        Check.due("grain", x.count(12), 7);
        Check.due("off", x.count(13), -7);
        Check.due("weighings", x.count(8), 4);
        Check.due("told", x.count(9), 3);
        Check.due("signs", x.count(11), 4);
        Check.due("numbers of the row", x.count(10), 4);
    }

    /** "What 0: PEOPLE, .. 13: OFF." */
    private static void countBounds() {
        HeavierServes x = Alike.full();
        long[] due = {8, 1, 2, 1, 12, 4095, 255, 20, 12, 10, 8, 80, 1, 0};
        for (int what = 0; what < due.length; what++) {
            Check.due("count(" + what + ")", x.count(what), due[what]);
        }
        HeavierServes y = Alike.some();
        long[] some = {4, 2, 0, 1, 3, 4, 7, 7, 3, 2, 4, 4, 2, 3};
        for (int what = 0; what < some.length; what++) {
            Check.due("count(" + what + ")", y.count(what), some[what]);
        }
        Alike.refused("count changes nothing", Alike::some, 3, z -> z.count(13));
    }

    /** "-100 for another what." */
    private static void countAnotherWhat() {
        for (int what : Alike.outside(0, 13)) {
            Alike.refused("count(" + what + ")", Alike::some, -100, x -> x.count(what));
            Alike.refused("count(" + what + ") of nobody", Alike::fresh, -100, x -> x.count(what));
        }
    }

    /** "2: who serves (NONE), 3: WEEKS for which that one serves (0 without)" */
    private static void countWithoutServing() {
        HeavierServes x = Check.with("40;50");
        Check.due("nobody", x.count(2), -1);
        Check.due("0 without", x.count(3), 0);
        x.stand(0);
        Check.due("0 without", x.count(3), 0);
        x.stand(1);
        x.stand(0);
        Check.due("2", x.count(3), 2);
        x.stand(2);
        Check.due("another one for one", x.count(3), 1);
        x.dies(1);
        Check.due("nobody", x.count(2), -1);
        Check.due("0 without", x.count(3), 0);
    }

    /** "Number i of the ROW." */
    private static void rowBounds() {
        HeavierServes x = Alike.full();
        x.rests(1, 0);
        Check.row("nine numbers", x, 0, 1, 1, 1, 1, 1, 1, 1, 1);
        x.ever(1);
        Check.row("one number", x, 4);
        Alike.refused("row changes nothing", Alike::some, 3, y -> y.row(0));
    }

    /** "NoSuchElementException: none such." */
    private static void rowNoneSuch() {
        for (int i : Alike.outside(0, 3)) {
            Alike.noSuch("row(" + i + ") of four", Alike::some, x -> x.row(i));
        }
        for (int i : Alike.outside(0, 7)) {
            Alike.noSuch("row(" + i + ") of eight", Alike::full, x -> x.row(i));
        }
        for (int i : Alike.outside(0, -1)) {
            Alike.noSuch("row(" + i + ") of none", Alike::fresh, x -> x.row(i));
        }
        // Numbers of a longer row told before are gone.
        HeavierServes x = Alike.full();
        x.ever(1);
        Check.noSuch("row(1) of one", () -> x.row(1));
    }
}
