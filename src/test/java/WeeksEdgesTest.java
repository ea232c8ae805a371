/** The boundary cases of promises 12 to 21, each by a test of its own. */
public final class WeeksEdgesTest {
    private WeeksEdgesTest() {
    }

    public static void main(String[] args) {
        standBitsOfNoneSuch();
        standAllBits();
        standNobody();
        standRow();
        weeksBounds();
        weeksRefused();
        weeksOfNone();
        weeksNobodyServingCounts();
        weeksLawsFallen();
        yearEmpty();
        yearOfNobody();
        yearRising();
        yearOf60Signs();
        yearOfMoreThan60();
        yearTellsOfOneNotThere();
        yearTellsAtFirst();
        yearOfOneNotAlive();
        yearRefused();
        lawNobodyServes();
        lawTwelve();
        lawsNoneSuch();
        lawsAnotherWhat();
        lawsFellIn();
        feedBounds();
        feed999AtMost();
        feedRefused();
        fastBounds();
        fast1AtLeast();
        fastRefused();
        diesServing();
        diesNotServing();
        diesRefused();
        undoNone();
        undoTwenty();
        undoTwentyOne();
        undoGoesRound();
        undoEachKind();
        undoNotOfRefusedOnes();
        undoOfNoWeek();
        undoAsOne();
        undoForgotten();
        undoNotForgotten();
        undoIsNotUndone();
        servedLastSixty();
        servedNotYet();
        servedNobody();
        servedBehindUndo();
        Check.close();
    }

    /** "-2: bits of none such." */
    private static void standBitsOfNoneSuch() {
        for (int those : new int[] {16, 31, 32, 128, 256, 1 << 30, Integer.MIN_VALUE, Integer.MAX_VALUE, -1, -16, 17}) {
            Alike.refused("stand(" + those + ") of four", Alike::some, -2, x -> x.stand(those));
        }
        for (int those : new int[] {256, 257, 511, 1 << 16, Integer.MIN_VALUE, Integer.MAX_VALUE, -1, -256}) {
            Alike.refused("stand(" + those + ") of eight", Alike::full, -2, x -> x.stand(those));
        }
        for (int those : new int[] {1, 2, 255, Integer.MIN_VALUE, Integer.MAX_VALUE, -1}) {
            Alike.refused("stand(" + those + ") of nobody", Alike::fresh, -2, x -> x.stand(those));
        }
    }

    private static void standAllBits() {
        HeavierServes x = Check.with("1;2;3;4;5;6;7;8");
        Check.due("the first bit", x.stand(1), 0);
        Check.due("the last bit", x.stand(128), 7);
        Check.due("all", x.stand(255), 7);
        Check.due("all of four", Alike.some().stand(15), 0);
    }

    /** "who serves then (NONE: nobody)" */
    private static void standNobody() {
        HeavierServes x = Check.with("40;50");
        Check.due("nobody stands", x.stand(0), -1);
        Check.row("nobody stands", x, 0, 0);
        Check.due("a week went by", x.count(1), 1);
        Check.due("a step", x.count(7), 1);
        Check.due("one", x.stand(1), 0);
        Check.due("nobody stands", x.stand(0), 0);
        Check.due("for two weeks", x.count(3), 2);
    }

    /** "the ROW: 1 if that is another one than before, else 0, how many LAWS fell" */
    private static void standRow() {
        HeavierServes x = Check.with("40;50;60");
        x.stand(1);
        Check.row("nobody before", x, 1, 0);
        x.stand(1);
        Check.row("the same", x, 0, 0);
        for (int k = 0; k < 12; k++) {
            x.law();
        }
        x.stand(0);
        Check.row("the same with laws", x, 0, 0);
        x.stand(2);
        Check.row("another one", x, 1, 12);
        x.stand(4);
        Check.row("another one without laws", x, 1, 0);
        x.dies(2);
        x.stand(0);
        Check.row("nobody as before", x, 0, 0);
        x.stand(2);
        Check.row("one again", x, 1, 0);
    }

    /** "n WEEKS (0 .. 99) BY WILL" */
    private static void weeksBounds() {
        HeavierServes x = Check.with("40;50");
        Check.due("99 weeks", x.weeks(99), 1);
        Check.row("99 weeks", x, 1, 0);
        Check.due("week", x.count(1), 99);
        Check.due("served", x.of(1, 4), 99);
        Check.due("one step", x.count(7), 1);
        Check.due("one week", x.weeks(1), 0);
        Check.due("week", x.count(1), 100);
    }

    /** "NONE: another n." */
    private static void weeksRefused() {
        for (int n : Alike.outside(0, 99)) {
            Alike.refused("weeks(" + n + ")", Alike::some, -1, x -> x.weeks(n));
            Alike.refused("weeks(" + n + ") of nobody", Alike::fresh, -1, x -> x.weeks(n));
        }
    }

    private static void weeksOfNone() {
        Alike.tells("weeks(0)", Alike::some, x -> x.weeks(0));
        HeavierServes x = Alike.some();
        Check.due("weeks(0)", x.weeks(0), 0);
        Check.row("who serves, none fell", x, 0, 0);
        HeavierServes y = new HeavierServes();
        Check.due("weeks(0) of nobody", y.weeks(0), 0);
        Check.row("nobody, none fell", y, -1, 0);
        Check.due("no step", y.count(7), 0);
    }

    /** "how often who serves was another one than before (nobody serving counts)" */
    private static void weeksNobodyServingCounts() {
        HeavierServes x = Check.with("40;50;60", "(n>1)*(i=0)+(n=3)*(i=1)+(n=5)*(i=2)");
        Check.due("nobody for two weeks", x.weeks(2), 0);
        Check.row("nobody", x, -1, 0);
        Check.due("one behind nobody", x.weeks(1), 1);
        Check.row("one behind nobody", x, 0, 0);
        x.undo();
        Check.due("three", x.weeks(4), 3);
        Check.row("three", x, 2, 0);
    }

    private static void weeksLawsFallen() {
        HeavierServes x = Check.with("40;50", "n>2");
        x.stand(1);
        for (int k = 0; k < 12; k++) {
            x.law();
        }
        Check.due("not yet", x.weeks(2), 0);
        Check.row("not yet", x, 0, 0);
        Check.due("then", x.weeks(1), 1);
        Check.row("twelve fell", x, 1, 12);
        Check.due("fell in", x.laws(11, 3), 3);
    }

    /** "(an empty one: nothing goes by)" */
    private static void yearEmpty() {
        HeavierServes x = Alike.some();
        Check.due("an empty year", Check.year(x, ""), 0);
        Check.row("who serves, none told so", x, 0, 0);
        Alike.tells("an empty year", () -> {
            HeavierServes y = Alike.some();
            y.end(0);
            return y;
        }, HeavierServes::year);
        HeavierServes nobody = new HeavierServes();
        Check.due("an empty year of nobody", nobody.year(), 0);
        Check.row("nobody", nobody, -1, 0);
    }

    /** "WEEKS with ; between, each the letters of those that STAND (.. perhaps none)" */
    private static void yearOfNobody() {
        HeavierServes x = Check.with("40;50");
        Check.due("two of none", Check.year(x, ";"), 2);
        Check.row("nobody", x, -1, 0);
        Check.due("weeks", x.count(1), 2);
        Check.due("one, then none", Check.year(x, "a;"), 2);
        Check.due("none, then one", Check.year(x, ";b"), 2);
        Check.row("b", x, 1, 0);
        Check.due("five of none", Check.year(x, ";;;;"), 5);
        Check.due("weeks", x.count(1), 11);
        HeavierServes nobody = new HeavierServes();
        Check.due("weeks of nobody", Check.year(nobody, ";;"), 3);
    }

    private static void yearFault(String year, int place) {
        Alike.refusedReading("year " + year, Alike::some, -1 - place, x -> Check.year(x, year));
        Alike.refusedReading("year " + year, Alike::full, -1 - place, x -> Check.year(x, year));
        Alike.refusedReading("year " + year, Alike::fresh, -1 - place, x -> Check.year(x, year));
    }

    /** "a letter that does not rise: at it" */
    private static void yearRising() {
        HeavierServes x = Check.with("1;2;3;4;5;6;7;8");
        Check.due("all", Check.year(x, "abcdefgh"), 1);
        Check.row("all", x, 7, 0);
        Check.due("each week anew", Check.year(x, "h;a;gh;ab"), 4);
        HeavierServes once = Check.with("45+9;50");
        Check.due("a stands in the first week alone", Check.year(once, "ab;"), 2);
        Check.row("a stands in the first week alone", once, 1, 0);
        yearFault("aa", 1);
        yearFault("ba", 1);
        yearFault("hh", 1);
        yearFault("abcdefgg", 7);
        yearFault("a;;bb", 4);
        yearFault("a;ba;x", 3);
    }

    /** The last that is still allowed: 60 signs. */
    private static void yearOf60Signs() {
        HeavierServes x = Check.with("40;50");
        Check.due("60 signs", Check.year(x, ";".repeat(60)), 61);
        Check.due("weeks", x.count(1), 61);
        Check.due("60 signs", Check.year(x, "a;".repeat(30)), 31);
        Check.due("60 signs", Check.year(x, ";".repeat(59) + "b"), 60);
        Check.row("the last sign counts", x, 1, 0);
        Check.due("59 signs", Check.year(x, ";".repeat(59)), 60);
        Check.due("60 of one not there", Check.year(x, ";".repeat(59) + "c"), 59);
        Check.row("60 of one not there", x, 1, 1);
    }

    /** "60, if it has more" */
    private static void yearOfMoreThan60() {
        yearFault(";".repeat(61), 60);
        yearFault(";".repeat(60) + "a", 60);
        yearFault(";".repeat(60) + "x", 60);
        yearFault(";".repeat(59) + "aa", 60);
        yearFault(";".repeat(80), 60);
        yearFault(";".repeat(59) + "x;", 59);
        yearFault(";".repeat(58) + "ba;", 59);
        yearFault("x" + ";".repeat(79), 0);
    }

    /** "till one tells of one that is not there: how many went by; the ROW: .. 1 if one told so" */
    private static void yearTellsOfOneNotThere() {
        HeavierServes x = Check.with("40;50;60");
        Check.due("d is not there", Check.year(x, "a;b;cd;c"), 2);
        Check.row("d is not there", x, 1, 1);
        Check.due("weeks", x.count(1), 2);
        Check.due("one step", x.count(7), 1);
        Check.due("in the last week", Check.year(x, ";h"), 1);
        Check.row("in the last week", x, 1, 1);
        Check.due("c is there", Check.year(x, "abc"), 1);
        Check.row("c is there", x, 2, 0);
        HeavierServes nobody = new HeavierServes();
        Check.due("nobody is there", Check.year(nobody, ";;a"), 2);
        Check.row("nobody is there", nobody, -1, 1);
    }

    private static void yearTellsAtFirst() {
        Alike.tells("a year that tells of e at first", () -> {
            HeavierServes x = Alike.some();
            x.end(0);
            return x;
        }, x -> Check.year(x, "e;a"));
        HeavierServes x = Alike.some();
        Check.due("none went by", Check.year(x, "ae"), 0);
        Check.row("none went by", x, 0, 1);
        Check.due("no step more", x.count(7), 7);
        // A fault behind it is seen first.
        yearFault("e;x", 2);
    }

    /** "(a .. h, whether there or not ..)": one not ALIVE is there. */
    private static void yearOfOneNotAlive() {
        HeavierServes x = Check.with("40;50");
        x.dies(1);
        Check.due("b is there", Check.year(x, "b;ab;b"), 3);
        Check.row("b does not stand", x, 0, 0);
    }

    /** "the sign at p can't stand there .. nothing goes by then" */
    private static void yearRefused() {
        yearFault("x", 0);
        yearFault("i", 0);
        yearFault("`", 0);
        yearFault("A", 0);
        yearFault(":", 0);
        yearFault("<", 0);
        yearFault("a;b;ci", 5);
        yearFault("a b", 1);
        yearFault("a,b", 1);
        yearFault("a;" + (char) 0, 2);
        yearFault("a;" + (char) ('b' + 128), 2);
    }

    /** "-2: nobody serves" */
    private static void lawNobodyServes() {
        Alike.refused("law of nobody", Alike::fresh, -2, HeavierServes::law);
        Alike.refused("law, nobody having stood", () -> Check.with("40;50"), -2, HeavierServes::law);
        Alike.refused("law, who served being dead", () -> {
            HeavierServes x = Alike.some();
            x.dies(0);
            return x;
        }, -2, HeavierServes::law);
        HeavierServes x = Check.with("40;50");
        x.stand(1);
        Check.due("in the first week", x.law(), 0);
    }

    /** "-3: 12 are there" */
    private static void lawTwelve() {
        Alike.refused("a thirteenth law", Alike::full, -3, HeavierServes::law);
        HeavierServes x = Alike.full();
        x.undo();
        Check.due("a twelfth law", x.law(), 11);
        x.stand(128);
        Alike.refused("a thirteenth law, all fallen", () -> {
            HeavierServes y = Alike.full();
            y.set(0, 7, 99);
            y.stand(128);
            return y;
        }, -3, HeavierServes::law);
    }

    /** "NoSuchElementException: none such" */
    private static void lawsNoneSuch() {
        for (int law : Alike.outside(0, 2)) {
            for (int what = 0; what < 4; what++) {
                int w = what;
                Alike.noSuch("laws(" + law + ", " + what + ")", Alike::some, x -> x.laws(law, w));
            }
        }
        for (int law : Alike.outside(0, 11)) {
            Alike.noSuch("laws(" + law + ", 0) of 12", Alike::full, x -> x.laws(law, 0));
        }
        Alike.noSuch("laws(0, 0) of none", Alike::fresh, x -> x.laws(0, 0));
        HeavierServes x = Alike.full();
        Check.due("the first law", x.laws(0, 0), 2);
        Check.due("the last law", x.laws(11, 0), 2);
        x.undo();
        Check.noSuch("a law undone", () -> x.laws(11, 0));
        Check.due("the last law", x.laws(10, 1), 1);
    }

    /** "another what" */
    private static void lawsAnotherWhat() {
        for (int what : Alike.outside(0, 3)) {
            Alike.noSuch("laws(0, " + what + ")", Alike::some, x -> x.laws(0, what));
            Alike.noSuch("laws(2, " + what + ")", Alike::some, x -> x.laws(2, what));
        }
        HeavierServes x = Alike.some();
        long[] fallen = {1, 1, 0, 1};
        long[] holding = {0, 2, 1, -1};
        for (int what = 0; what < 4; what++) {
            Check.due("laws(0, " + what + ")", x.laws(0, what), fallen[what]);
            Check.due("laws(2, " + what + ")", x.laws(2, what), holding[what]);
        }
    }

    /** "3: the WEEK in which it fell (NONE: it holds)" */
    private static void lawsFellIn() {
        HeavierServes x = Check.with("40;50");
        x.stand(1);
        x.law();
        Check.due("it holds", x.laws(0, 3), -1);
        x.stand(2);
        Check.due("it fell in week 1", x.laws(0, 3), 1);
        x.law();
        x.dies(1);
        Check.due("it fell in week 2", x.laws(1, 3), 2);
        Check.due("it does not hold", x.laws(1, 2), 0);
        Check.due("made in week 2", x.laws(1, 1), 2);
        x.undo();
        Check.due("it holds again", x.laws(1, 3), -1);
        Check.due("it holds again", x.laws(1, 2), 1);
    }

    /** "One ALIVE eats n cakes (1 .. 99): WEIGHT is n more .. : it." */
    private static void feedBounds() {
        HeavierServes x = Check.with("40;50;1;1;1;1;1;60");
        Check.due("one cake", x.feed(0, 1), 41);
        Check.due("99 cakes", x.feed(0, 99), 140);
        Check.due("the last", x.feed(7, 99), 159);
        Check.due("weight", x.of(7, 0), 159);
        Check.due("steps", x.count(7), 3);
    }

    /** "(999 at most)" */
    private static void feed999AtMost() {
        HeavierServes x = Check.with("997");
        Check.due("998", x.feed(0, 1), 998);
        Check.due("999", x.feed(0, 1), 999);
        Check.due("999 still", x.feed(0, 1), 999);
        Check.due("999 still", x.feed(0, 99), 999);
        Check.due("steps", x.count(7), 4);
        x.set(0, 0, 900);
        Check.due("999", x.feed(0, 99), 999);
        x.set(0, 0, 901);
        Check.due("999", x.feed(0, 99), 999);
    }

    /** "Refused: others, not ALIVE." */
    private static void feedRefused() {
        for (int n : Alike.outside(1, 99)) {
            Alike.refused("feed(0, " + n + ")", Alike::some, -1, x -> x.feed(0, n));
        }
        for (int person : Alike.outside(0, 3)) {
            Alike.refused("feed(" + person + ", 1)", Alike::some, -1, x -> x.feed(person, 1));
        }
        for (int person : Alike.NOBODIES) {
            Alike.refused("feed(" + person + ", 1) of eight", Alike::full, -1, x -> x.feed(person, 1));
        }
        Alike.refused("feed one not alive", Alike::some, -1, x -> x.feed(3, 1));
        Alike.refused("feed nobody", Alike::fresh, -1, x -> x.feed(0, 1));
    }

    /** "One ALIVE fasts n (1 .. 99): WEIGHT is n less .. : it." */
    private static void fastBounds() {
        HeavierServes x = Check.with("240;50;1;1;1;1;1;160");
        Check.due("one", x.fast(0, 1), 239);
        Check.due("99", x.fast(0, 99), 140);
        Check.due("the last", x.fast(7, 99), 61);
        Check.due("weight", x.of(7, 0), 61);
        Check.due("steps", x.count(7), 3);
    }

    /** "(1 at least)" */
    private static void fast1AtLeast() {
        HeavierServes x = Check.with("3");
        Check.due("2", x.fast(0, 1), 2);
        Check.due("1", x.fast(0, 1), 1);
        Check.due("1 still", x.fast(0, 1), 1);
        Check.due("1 still", x.fast(0, 99), 1);
        Check.due("steps", x.count(7), 4);
        x.set(0, 0, 100);
        Check.due("1", x.fast(0, 99), 1);
        x.set(0, 0, 99);
        Check.due("1", x.fast(0, 99), 1);
    }

    /** "Refused: others, not ALIVE." */
    private static void fastRefused() {
        for (int n : Alike.outside(1, 99)) {
            Alike.refused("fast(0, " + n + ")", Alike::some, -1, x -> x.fast(0, n));
        }
        for (int person : Alike.outside(0, 3)) {
            Alike.refused("fast(" + person + ", 1)", Alike::some, -1, x -> x.fast(person, 1));
        }
        for (int person : Alike.NOBODIES) {
            Alike.refused("fast(" + person + ", 1) of eight", Alike::full, -1, x -> x.fast(person, 1));
        }
        Alike.refused("fast of one not alive", Alike::some, -1, x -> x.fast(3, 1));
        Alike.refused("fast of nobody", Alike::fresh, -1, x -> x.fast(0, 1));
    }

    /** "if it served, nobody does, and LAWS it made that hold are fallen: how many LAWS fell" */
    private static void diesServing() {
        HeavierServes x = Alike.full();
        Check.due("all twelve fell", x.dies(2), 12);
        Check.due("nobody serves", x.count(2), -1);
        Check.due("for no weeks", x.count(3), 0);
        Check.due("none holds", x.count(5), 0);
        Check.due("alive", x.count(6), 255 - 4);
        Check.due("its weeks stay", x.of(2, 4), 1);
        Check.due("who served stays", x.served(0), 2);
        HeavierServes y = Check.with("40");
        y.stand(1);
        Check.due("without laws", y.dies(0), 0);
        Check.due("nobody serves", y.count(2), -1);
        HeavierServes z = Alike.some();
        Check.due("of three laws one held", z.dies(0), 1);
        Check.due("that of week 1 fell then", z.laws(0, 3), 1);
        Check.due("that of week 2 now", z.laws(2, 3), 2);
    }

    private static void diesNotServing() {
        HeavierServes x = Alike.some();
        Check.due("none fell", x.dies(1), 0);
        Check.due("who serves", x.count(2), 0);
        Check.due("for a week", x.count(3), 1);
        Check.due("holds", x.count(5), 4);
        Check.due("alive", x.count(6), 5);
        Check.due("the first of eight", Alike.full().dies(0), 0);
        Check.due("the last of eight", Alike.full().dies(7), 0);
    }

    /** "Refused: none such, not ALIVE." */
    private static void diesRefused() {
        for (int person : Alike.outside(0, 3)) {
            Alike.refused("dies(" + person + ")", Alike::some, -1, x -> x.dies(person));
        }
        for (int person : Alike.NOBODIES) {
            Alike.refused("dies(" + person + ") of eight", Alike::full, -1, x -> x.dies(person));
        }
        Alike.refused("dies twice", Alike::some, -1, x -> x.dies(3));
        Alike.refused("dies of nobody", Alike::fresh, -1, x -> x.dies(0));
    }

    /** "Refused: none." */
    private static void undoNone() {
        Alike.refused("undo of nobody", Alike::fresh, -1, HeavierServes::undo);
        Alike.refused("undo of nothing", () -> Check.with("40;50"), -1, HeavierServes::undo);
        Alike.refused("undo when all is undone", () -> {
            HeavierServes x = Check.with("40;50");
            x.stand(1);
            x.feed(0, 1);
            x.undo();
            x.undo();
            return x;
        }, -1, HeavierServes::undo);
    }

    /** "of 20 that are kept": all of 20 can be undone. */
    private static void undoTwenty() {
        HeavierServes x = Check.with("500");
        for (int k = 0; k < 20; k++) {
            x.feed(0, 1);
            Check.due("steps", x.count(7), k + 1);
        }
        for (int k = 19; k >= 0; k--) {
            Check.due("left", x.undo(), k);
            Check.due("weight", x.of(0, 0), 500 + k);
            Check.due("steps", x.count(7), k);
        }
        Check.due("none", x.undo(), -1);
    }

    /** ".. the latest ones": of 21 the first can't be undone any more. */
    private static void undoTwentyOne() {
        HeavierServes x = Check.with("500");
        for (int k = 0; k < 21; k++) {
            x.feed(0, 1);
        }
        Check.due("steps", x.count(7), 20);
        for (int k = 19; k >= 0; k--) {
            Check.due("left", x.undo(), k);
        }
        Check.due("none", x.undo(), -1);
        Check.due("the first stays", x.of(0, 0), 501);
    }

    private static void undoGoesRound() {
        HeavierServes x = Check.with("500");
        for (int k = 0; k < 33; k++) {
            x.feed(0, 1);
        }
        for (int k = 0; k < 7; k++) {
            Check.due("left", x.undo(), 19 - k);
        }
        Check.due("weight", x.of(0, 0), 526);
        for (int k = 0; k < 10; k++) {
            x.fast(0, 2);
        }
        Check.due("steps", x.count(7), 20);
        for (int k = 0; k < 10; k++) {
            x.undo();
        }
        Check.due("weight", x.of(0, 0), 526);
        for (int k = 9; k >= 0; k--) {
            Check.due("left", x.undo(), k);
        }
        Check.due("weight", x.of(0, 0), 516);
        Check.due("none", x.undo(), -1);
    }

    private static void undone(String what, Alike.Call call) {
        Alike.tells(what + " undone", Alike::some, x -> {
            int steps = x.count(7);
            call.on(x);
            Check.due(what + ": a step more", x.count(7), steps + 1);
            return x.undo();
        });
    }

    /** "The latest stand(), weeks() or year() .., law(), feed(), fast(), dies() .. is undone" */
    private static void undoEachKind() {
        undone("stand", x -> x.stand(2));
        undone("stand of nobody", x -> x.stand(0));
        undone("weeks", x -> x.weeks(9));
        undone("law", HeavierServes::law);
        undone("feed", x -> x.feed(1, 9));
        undone("fast", x -> x.fast(2, 9));
        undone("dies", x -> x.dies(0));
        Alike.tells("year undone", () -> {
            HeavierServes x = Alike.some();
            x.end(0);
            return x;
        }, x -> {
            Check.due("two weeks", Check.year(x, "b;bc;e"), 2);
            return x.undo();
        });
    }

    /** "such as were not refused" */
    private static void undoNotOfRefusedOnes() {
        HeavierServes x = Check.with("40;50");
        x.law();
        x.stand(4);
        x.weeks(100);
        x.weeks(-1);
        Check.year(x, "ba");
        x.feed(0, 0);
        x.feed(2, 1);
        x.fast(0, 100);
        x.dies(2);
        Check.due("no step", x.count(7), 0);
        Check.due("none", x.undo(), -1);
    }

    /** "stand(), weeks() or year() by which a WEEK or more went by" */
    private static void undoOfNoWeek() {
        HeavierServes x = Check.with("40;50");
        x.weeks(0);
        Check.year(x, "");
        Check.year(x, "c;a");
        Check.due("no step", x.count(7), 0);
        x.weeks(1);
        Check.due("one", x.count(7), 1);
        Check.year(x, "a;c");
        Check.due("two", x.count(7), 2);
        x.stand(0);
        Check.due("three", x.count(7), 3);
    }

    /** "is undone as one (all that these change is as ahead of it)" */
    private static void undoAsOne() {
        HeavierServes x = Check.with("40+1;50-1;60", "w>v");
        x.stand(1);
        x.law();
        Check.will(x, "t");
        x.stand(4);
        Check.due("none holds", x.of(0, 6), 0);
        Check.due("left", x.undo(), 2);
        Check.due("one holds again", x.of(0, 6), 1);
        Check.due("fallen no more", x.laws(0, 3), -1);
        Check.will(x, "w>v");
        x.weeks(99);
        Check.due("left", x.undo(), 2);
        Check.due("week", x.count(1), 1);
        Check.due("serves", x.count(2), 0);
        Check.due("since", x.count(3), 1);
        Check.due("holds", x.count(5), 1);
        Check.due("weight", x.of(0, 0), 41);
        Check.due("weight", x.of(1, 0), 49);
        Check.due("weeks served", x.of(2, 4), 0);
        Check.due("not yet", x.served(1), -2);
        Check.year(x, ";b;c;" + ";".repeat(50));
        Check.due("left", x.undo(), 2);
        Check.due("week", x.count(1), 1);
        Check.due("serves", x.count(2), 0);
        Check.due("weight", x.of(1, 0), 49);
    }

    /** "(town(), twin() and again() forget them, if they are not refused ..)" */
    private static void undoForgotten() {
        HeavierServes x = Alike.some();
        Check.town(x, "9");
        Check.due("town forgets", x.count(7), 0);
        Check.due("none", x.undo(), -1);
        x = Alike.some();
        x.twin(0);
        Check.due("twin forgets", x.count(7), 0);
        Check.due("none", x.undo(), -1);
        x = Alike.some();
        x.again(0);
        Check.due("again forgets", x.count(7), 0);
        Check.due("none", x.undo(), -1);
        x.feed(0, 1);
        Check.due("a step behind it", x.count(7), 1);
        Check.due("undo", x.undo(), 0);
        Check.due("weight", x.of(0, 0), 61);
    }

    /** ".. (an empty town() does not)", nor do refused ones, nor other calls */
    private static void undoNotForgotten() {
        HeavierServes x = Alike.some();
        Check.town(x, "");
        Check.due("an empty town", x.count(7), 7);
        Check.town(x, "5;");
        Check.due("a town with a fault", x.count(7), 7);
        x.twin(3);
        x.twin(4);
        Check.due("a twin refused", x.count(7), 7);
        x.again(2);
        x.again(3);
        Check.due("again refused", x.count(7), 7);
        x.keep(2);
        Check.will(x, "1");
        Check.habit(x, 0, "+1");
        x.set(0, 0, 9);
        x.scale(0, 1);
        x.sheet(2, 4, 50, 1);
        x.weighed(0, 9);
        x.told(0, 9);
        x.wipe();
        Check.due("others", x.count(7), 7);
        HeavierServes eight = Alike.full();
        Check.town(eight, "5");
        eight.twin(0);
        Check.due("no room", eight.count(7), 20);
    }

    /** An undo() is none of what can be undone. */
    private static void undoIsNotUndone() {
        HeavierServes x = Check.with("40");
        x.feed(0, 1);
        x.feed(0, 2);
        Check.due("left", x.undo(), 1);
        Check.due("left", x.undo(), 0);
        Check.due("none", x.undo(), -1);
        Check.due("weight", x.of(0, 0), 40);
    }

    /** "(the last 60 are known) .. -2: .. is not known any more" */
    private static void servedLastSixty() {
        HeavierServes x = Check.with("40;50");
        Check.year(x, "a;b");
        x.weeks(58);
        Check.due("week", x.count(1), 60);
        Check.due("the first of 60", x.served(0), 0);
        Check.due("the second", x.served(1), 1);
        x.stand(0);
        Check.due("not known any more", x.served(0), -2);
        Check.due("the first of 60", x.served(1), 1);
        x.weeks(99);
        x.dies(1);
        x.stand(1);
        Check.due("week", x.count(1), 161);
        Check.due("not known any more", x.served(100), -2);
        Check.due("the first of 60", x.served(101), 1);
        Check.due("the last but one", x.served(159), 1);
        Check.due("the last", x.served(160), 0);
        Check.due("not yet", x.served(161), -2);
        Check.due("not known any more", x.served(0), -2);
    }

    /** "-2: that WEEK was not yet" */
    private static void servedNotYet() {
        for (int week : Alike.outside(0, 1)) {
            Alike.refused("served(" + week + ")", Alike::some, -2, x -> x.served(week));
        }
        for (int week : Alike.outside(0, -1)) {
            Alike.refused("served(" + week + ") of nobody", Alike::fresh, -2, x -> x.served(week));
        }
        HeavierServes x = Alike.some();
        Check.due("served(0)", x.served(0), 1);
        Check.due("served(1)", x.served(1), 0);
    }

    /** "NONE: nobody did" */
    private static void servedNobody() {
        HeavierServes x = Check.with("40;50");
        Check.year(x, ";a;");
        x.dies(0);
        x.stand(0);
        x.stand(2);
        long[] due = {-1, 0, 0, -1, 1, -2};
        for (int week = 0; week < due.length; week++) {
            Check.due("served(" + week + ")", x.served(week), due[week]);
        }
    }

    private static void servedBehindUndo() {
        HeavierServes x = Check.with("40;50");
        x.stand(1);
        x.weeks(60);
        Check.due("not known any more", x.served(0), -2);
        x.undo();
        Check.due("known again", x.served(0), 0);
        Check.due("not yet", x.served(1), -2);
        x.stand(0);
        Check.due("anew", x.served(1), 0);
    }
}
