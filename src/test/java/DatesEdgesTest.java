/** The boundary cases of promises 41 to 44, each by a test of its own. */
public final class DatesEdgesTest {
    private DatesEdgesTest() {
    }

    public static void main(String[] args) {
        toldBounds();
        toldTen();
        toldRefused();
        toldOfOneNotAlive();
        wipeAll();
        explainsNothingTold();
        explainsBounds();
        explainsSixtyOn();
        explainsNone();
        explainsGaps();
        explainsRefused();
        absentNothingTold();
        absentAlone();
        absentSoAsItIs();
        absentNotAlive();
        absentWhoServes();
        Check.close();
    }

    /** "It is told that one serves n WEEKS (1 .. 60) on (from when it is asked for): how many were told." */
    private static void toldBounds() {
        HeavierServes x = Check.with("1;2;3;4;5;6;7;8", "(i=0)*(n=0)+(i=7)*(n=59)");
        Check.due("1 on", x.told(0, 1), 1);
        Check.due("60 on", x.told(7, 60), 2);
        Check.due("told", x.count(9), 2);
        x.absent();
        Check.row("it is so", x, 1);
        Check.due("59 on", x.told(0, 59), 3);
        x.absent();
        Check.row("it is so", x, 1);
        x.stand(0);
        x.absent();
        Check.row("a week later it is not", x, 0);
    }

    /** "Refused: .. 10." */
    private static void toldTen() {
        HeavierServes x = Check.with("40;50");
        for (int k = 1; k <= 10; k++) {
            Check.due("told " + k, x.told(0, k), k);
        }
        Alike.refused("an eleventh", Alike::full, -1, y -> y.told(0, 5));
        Check.due("told", x.count(9), 10);
        Check.due("wiped out", x.wipe(), 10);
        Check.due("told anew", x.told(0, 5), 1);
    }

    /** "Refused: others" */
    private static void toldRefused() {
        for (int n : Alike.outside(1, 60)) {
            Alike.refused("told(0, " + n + ")", Alike::some, -1, x -> x.told(0, n));
        }
        for (int person : Alike.outside(0, 3)) {
            Alike.refused("told(" + person + ", 1)", Alike::some, -1, x -> x.told(person, 1));
        }
        for (int person : Alike.NOBODIES) {
            Alike.refused("told(" + person + ", 1) of eight", () -> {
                HeavierServes x = Alike.full();
                x.wipe();
                return x;
            }, -1, x -> x.told(person, 1));
        }
        Alike.refused("told of nobody", Alike::fresh, -1, x -> x.told(0, 1));
    }

    private static void toldOfOneNotAlive() {
        HeavierServes x = Alike.some();
        Check.due("one not alive", x.told(3, 1), 3);
        Check.due("no weight explains that", x.explains(0), 0);
    }

    /** "What was told is wiped out: how much there was." */
    private static void wipeAll() {
        HeavierServes x = Alike.full();
        Check.due("ten", x.wipe(), 10);
        Check.due("told", x.count(9), 0);
        Check.due("none", x.wipe(), 0);
        Alike.refused("nothing to wipe out", Alike::fresh, 0, HeavierServes::wipe);
        HeavierServes y = Check.with("40;50");
        y.told(0, 1);
        Check.due("one", y.wipe(), 1);
        Check.due("all weights explain nothing", y.explains(0), 999);
    }

    private static void explainsNothingTold() {
        HeavierServes x = Check.with("40;50");
        Check.due("all", x.explains(0), 999);
        Check.row("all", x, 1, 999);
        Alike.tells("explains", Alike::some, y -> y.explains(0));
        Alike.tells("explains", Alike::full, y -> y.explains(7));
    }

    /** "WEIGHTS (1 .. 999) of one ALIVE now .. the ROW: the least, the greatest" */
    private static void explainsBounds() {
        HeavierServes x = Check.with("500;999;1");
        x.told(0, 1);
        Check.due("999 alone, the first of equal ones", x.explains(0), 1);
        Check.row("999 alone", x, 999, 999);
        x.dies(1);
        Check.due("all but none", x.explains(0), 999);
        Check.row("with 1 as the first of equal ones, too", x, 1, 999);
        Check.due("0 is the heaviest", x.explains(2), 500);
        Check.row("0 is the heaviest", x, 1, 500);
        x = Check.with("1;500");
        x.told(0, 1);
        Check.due("1 alone, as the second of equal ones", x.explains(1), 1);
        Check.row("1 alone", x, 1, 1);
        Check.due("500 to 999", x.explains(0), 500);
        Check.row("500 to 999", x, 500, 999);
        Check.due("weight is as it was", x.of(0, 0), 1);
    }

    private static void explainsSixtyOn() {
        HeavierServes x = Check.with("40;50", "(i=0)+(n=59)");
        x.told(1, 60);
        Check.due("more than 40", x.explains(1), 999 - 40);
        Check.row("more than 40", x, 41, 999);
        x.told(0, 59);
        Check.due("that, too", x.explains(1), 999 - 40);
        x.told(0, 60);
        Check.due("not two in one week", x.explains(1), 0);
        x.wipe();
        x.told(1, 59);
        Check.due("not before", x.explains(1), 0);
    }

    /** "(none without)" */
    private static void explainsNone() {
        HeavierServes x = Check.with("40;50", "i=0");
        x.then(2);
        x.told(1, 9);
        Check.due("it never wills", x.explains(1), 0);
        Check.row("no row without", x);
        x.then(2);
        Check.due("nor does another's weight help", x.explains(0), 0);
        Check.row("no row without", x);
        x = Check.with("40;50");
        x.told(0, 1);
        x.told(1, 1);
        Check.due("two in one week", x.explains(0), 0);
        Check.row("two in one week", x);
        x.then(2);
        Check.due("two in one week, of the other", x.explains(1), 0);
        Check.row("two in one week, of the other", x);
    }

    private static void explainsGaps() {
        HeavierServes x = Check.with("40;50", "(w=1)+(w=999)+(w=77)*2");
        x.told(1, 1);
        Check.due("three", x.explains(1), 3);
        Check.row("the least and the greatest", x, 1, 999);
    }

    /** "NONE: none such, not ALIVE." */
    private static void explainsRefused() {
        for (int person : Alike.outside(0, 3)) {
            Alike.refused("explains(" + person + ")", Alike::some, -1, x -> x.explains(person));
        }
        for (int person : Alike.NOBODIES) {
            Alike.refused("explains(" + person + ") of eight", Alike::full, -1, x -> x.explains(person));
        }
        Alike.refused("explains of one not alive", Alike::some, -1, x -> x.explains(3));
        Alike.refused("explains of nobody", Alike::fresh, -1, x -> x.explains(0));
    }

    private static void absentNothingTold() {
        HeavierServes x = Alike.full();
        x.wipe();
        Check.due("all", x.absent(), 255);
        Check.row("it is so", x, 1);
        HeavierServes nobody = new HeavierServes();
        Check.due("nobody", nobody.absent(), 0);
        Check.row("it is so", nobody, 1);
        Alike.tells("absent", Alike::some, HeavierServes::absent);
        Alike.tells("absent", Alike::full, HeavierServes::absent);
    }

    /** "each of whom alone, standing in none of the WEEKS to come, would make all that was told so" */
    private static void absentAlone() {
        HeavierServes x = Check.with("40;50;60");
        x.told(1, 60);
        Check.due("2 alone", x.absent(), 4);
        Check.row("not as it is", x, 0);
        x.told(0, 1);
        Check.due("not all of it", x.absent(), 0);
        Check.row("not as it is", x, 0);
        HeavierServes eight = Check.with("1;2;3;4;5;6;7;8");
        eight.told(6, 1);
        Check.due("the last", eight.absent(), 128);
    }

    /** "the ROW: 1 if it is so as it is, else 0" */
    private static void absentSoAsItIs() {
        HeavierServes x = Check.with("40;50;60");
        x.told(2, 1);
        x.told(2, 60);
        Check.due("0 or 1", x.absent(), 3);
        Check.row("as it is", x, 1);
        x.told(1, 60);
        Check.due("two in one week", x.absent(), 0);
        Check.row("not as it is", x, 0);
    }

    /** "PEOPLE (bits), ALIVE" */
    private static void absentNotAlive() {
        HeavierServes x = Check.with("40;50;60");
        x.dies(0);
        x.told(2, 1);
        Check.due("1 alone", x.absent(), 2);
        Check.row("as it is", x, 1);
        x.dies(1);
        x.dies(2);
        Check.due("none alive", x.absent(), 0);
        Check.row("not as it is", x, 0);
    }

    private static void absentWhoServes() {
        HeavierServes x = Check.with("40;50");
        x.stand(2);
        x.told(1, 60);
        Check.due("who serves need not stand", x.absent(), 3);
        Check.row("as it is", x, 1);
    }
}
