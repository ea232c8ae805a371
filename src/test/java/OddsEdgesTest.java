/** The boundary cases of promises 45 to 47, each by a test of its own. */
public final class OddsEdgesTest {
    private OddsEdgesTest() {
    }

    public static void main(String[] args) {
        twinOfTheLast();
        twinNeverServed();
        twinUpToEight();
        twinRefused();
        oddsNow();
        oddsBounds();
        oddsOfOneNotAlive();
        oddsInTheSecondWeek();
        oddsAsInAWeek();
        oddsIllBounds();
        oddsGreatestNumbers();
        oddsRefused();
        likelyNobodyIsThere();
        likelyNobodyFirst();
        likelyOfEqualOnes();
        likelyWhoServes();
        Check.close();
    }

    /** "One more of PEOPLE, as one ALIVE is (WEIGHT, PARTY, HABIT, ILL) ..: its number." */
    private static void twinOfTheLast() {
        HeavierServes x = Check.with("40*1+1;999*3+1-2+3-4+5-6");
        x.set(2, 1, 9);
        Check.due("2", x.twin(1), 2);
        Check.due("3", x.twin(2), 3);
        for (int what = 0; what < 8; what++) {
            Check.due("of(3, " + what + ")", x.of(3, what), x.of(1, what));
        }
        for (int k = 0; k < 6; k++) {
            Check.due("change " + k, x.change(3, k), x.change(1, k));
        }
        Check.noSuch("change 6", () -> x.change(3, 6));
        x.fast(3, 9);
        Check.due("weights of their own", x.of(1, 0), 999);
        x.set(1, 3, 0);
        Check.due("parties of their own", x.of(1, 1), 3);
    }

    /** "that never served" */
    private static void twinNeverServed() {
        HeavierServes x = Check.with("40;50");
        x.stand(1);
        x.stand(0);
        Check.due("twin of who serves", x.twin(0), 2);
        Check.due("weeks of the twin", x.of(2, 4), 0);
        Check.due("weeks of the other", x.of(0, 4), 2);
        Check.due("who serves", x.count(2), 0);
        Check.due("an equal one does not come to serve", x.stand(4), 0);
        x.dies(2);
        Check.town(x, "60");
        Check.due("never served either", x.of(3, 4), 0);
    }

    private static void twinUpToEight() {
        HeavierServes x = Check.with("40");
        for (int k = 1; k < 8; k++) {
            Check.due("twin", x.twin(k - 1), k);
        }
        Check.due("people", x.count(0), 8);
        Check.due("alive", x.count(6), 255);
        Check.due("eight are there", x.twin(0), -1);
    }

    /** "Refused: none such, not ALIVE, 8." */
    private static void twinRefused() {
        for (int person : Alike.outside(0, 3)) {
            Alike.refused("twin(" + person + ")", Alike::some, -1, x -> x.twin(person));
        }
        Alike.refused("twin of one not alive", Alike::some, -1, x -> x.twin(3));
        for (int person = -1; person <= 8; person++) {
            int p = person;
            Alike.refused("twin(" + person + ") of eight", Alike::full, -1, x -> x.twin(p));
        }
        Alike.refused("twin of nobody", Alike::fresh, -1, x -> x.twin(0));
    }

    /** "n WEEKS (0 .. 2) on": 0 on is now. */
    private static void oddsNow() {
        HeavierServes x = Check.with("40;50");
        x.set(2, 1, 5);
        Check.due("nobody serves", x.odds(1, 0), 0);
        Check.row("nobody serves", x, 0, 1);
        x.stand(1);
        Check.due("who serves", x.odds(0, 0), 0);
        Check.row("who serves", x, 1, 1);
        Check.due("the other", x.odds(1, 0), 0);
        Check.row("the other", x, 0, 1);
    }

    private static void oddsBounds() {
        HeavierServes x = Check.with("40;50");
        x.set(2, 1, 5);
        x.stand(1);
        x.odds(1, 1);
        Check.row("1 on", x, 1, 2);
        x.odds(1, 2);
        Check.row("2 on", x, 3, 4);
        x.odds(0, 2);
        Check.row("2 on", x, 1, 4);
        Alike.tells("odds", Alike::some, y -> y.odds(0, 2));
        Alike.tells("odds", Alike::full, y -> y.odds(7, 2));
    }

    private static void oddsOfOneNotAlive() {
        HeavierServes x = Check.with("40;50");
        x.stand(2);
        x.dies(1);
        for (int n = 0; n <= 2; n++) {
            Check.due("not alive", x.odds(1, n), 0);
            Check.row("not alive", x, 0, 1);
        }
    }

    private static void surely(String what, HeavierServes x, int who) {
        for (int p = 0; p < x.count(0); p++) {
            for (int n = 1; n <= 2; n++) {
                Check.due(what, x.odds(p, n), 0);
                Check.row(what + ": odds(" + p + ", " + n + ")", x, p == who ? 1 : 0, 1);
            }
        }
        Check.due(what, x.likely(), who);
    }

    /** In the second week THE WILL goes by who serves then, and for how long. */
    private static void oddsInTheSecondWeek() {
        HeavierServes x = Check.with("30;40;50", "(i=1)*(n=1)+(i=2)*(s=2)");
        x.set(2, 1, 5);
        x.set(2, 2, 4);
        x.stand(1);
        // 1 comes with a half; else 0 serves for a second week, by which 2 wills.
        x.odds(0, 2);
        Check.row("0 stays, 2 being ill", x, 1, 5);
        x.odds(1, 2);
        Check.row("1 came, for a first week", x, 1, 2);
        x.odds(2, 2);
        Check.row("0 stayed, 2 came", x, 3, 10);
    }

    /** The bounds of a WEEK: of equal ones the first, more than who serves, one of whom 0 is shown. */
    private static void oddsAsInAWeek() {
        surely("the heavier one is the first", Check.with("50;40"), 0);
        surely("of equal ones the first", Check.with("40;50;50"), 1);
        HeavierServes x = Check.with("40;40;39");
        x.stand(2);
        surely("as much as who serves is not more", x, 1);
        x = Check.with("500;1;2", "i>0");
        x.scale(1, -9);
        surely("of those of whom 0 is shown the first", x, 1);
    }

    private static void oddsIllBounds() {
        HeavierServes x = Check.with("40;50");
        x.set(2, 1, 9);
        x.odds(1, 1);
        Check.row("9 tenths", x, 1, 10);
        x.odds(1, 2);
        Check.row("9 tenths twice", x, 19, 100);
        x.set(2, 1, 0);
        x.odds(1, 2);
        Check.row("never ill", x, 1, 1);
        // Who does not will does not stand, ill or not.
        x.set(2, 1, 9);
        Check.will(x, "i=0");
        x.odds(0, 1);
        Check.row("the other does not will", x, 1, 1);
        x.odds(1, 1);
        Check.row("it does not will", x, 0, 1);
    }

    private static void oddsGreatestNumbers() {
        HeavierServes x = Check.with("1;2;3;4;5;6;7;8");
        for (int p = 0; p < 8; p++) {
            x.set(2, p, 9);
        }
        long nines = 4782969L;
        x.odds(0, 1);
        Check.row("the lightest of eight", x, nines, 100000000L);
        x.odds(0, 2);
        Check.row("the lightest of eight in two", x, nines * nines * 19, 10000000000000000L);
        for (int p = 0; p < 8; p++) {
            x.set(2, p, 1);
        }
        x.odds(0, 1);
        Check.row("all others ill with a tenth", x, 9, 100000000L);
        x.odds(0, 2);
        Check.row("that or nobody in the first week", x, 99, 10000000000000000L);
    }

    /** "0; NONE: none such, another n." */
    private static void oddsRefused() {
        for (int n : Alike.outside(0, 2)) {
            Alike.refused("odds(0, " + n + ")", Alike::some, -1, x -> x.odds(0, n));
        }
        for (int person : Alike.outside(0, 3)) {
            Alike.refused("odds(" + person + ", 1)", Alike::some, -1, x -> x.odds(person, 1));
        }
        for (int person : Alike.NOBODIES) {
            Alike.refused("odds(" + person + ", 1) of eight", Alike::full, -1, x -> x.odds(person, 1));
        }
        // Nobody serves: person -1 must not be taken for nobody.
        Alike.refused("odds(-1, 0), nobody serving", Alike::fresh, -1, x -> x.odds(-1, 0));
        Alike.refused("odds(-1, 1), nobody serving", Alike::fresh, -1, x -> x.odds(-1, 1));
    }

    private static void likelyNobodyIsThere() {
        HeavierServes x = new HeavierServes();
        Check.due("nobody", x.likely(), -1);
        Check.row("nobody", x, 1, 1);
        x = Check.with("40;50", "0");
        Check.due("nobody wills", x.likely(), -1);
        Check.row("nobody wills", x, 1, 1);
        Alike.tells("likely", Alike::some, HeavierServes::likely);
        Alike.tells("likely", Alike::full, HeavierServes::likely);
    }

    /** "(NONE: nobody, counting, too, as the first of all)" */
    private static void likelyNobodyFirst() {
        HeavierServes x = Check.with("40");
        x.set(2, 0, 5);
        Check.due("as likely as nobody", x.likely(), -1);
        Check.row("as likely as nobody", x, 1, 2);
        x.set(2, 0, 4);
        Check.due("more likely than nobody", x.likely(), 0);
        Check.row("more likely than nobody", x, 3, 5);
        x.set(2, 0, 6);
        Check.due("less likely than nobody", x.likely(), -1);
        Check.row("less likely than nobody", x, 3, 5);
    }

    /** "of equal ones the first: it; the ROW: the fraction" */
    private static void likelyOfEqualOnes() {
        HeavierServes x = Check.with("40;50");
        x.set(2, 1, 5);
        Check.due("the first of two", x.likely(), 0);
        Check.row("the first of two", x, 1, 2);
        x.set(2, 1, 4);
        Check.due("the likelier one", x.likely(), 1);
        Check.row("the likelier one", x, 3, 5);
        HeavierServes eight = Check.with("1;2;3;4;5;6;7;8");
        Check.due("the last", eight.likely(), 7);
        Check.row("the last", eight, 1, 1);
    }

    private static void likelyWhoServes() {
        HeavierServes x = Check.with("40;50;30");
        x.stand(4);
        x.set(2, 0, 5);
        x.set(2, 1, 5);
        // 1 with a half, 0 with a quarter, 2, who serves, with a quarter.
        Check.due("1", x.likely(), 1);
        x.set(2, 1, 9);
        x.set(2, 0, 9);
        Check.due("who serves stays", x.likely(), 2);
        Check.row("who serves stays", x, 81, 100);
        x.set(2, 1, 5);
        x.set(2, 0, 0);
        Check.due("the first of equal ones", x.likely(), 0);
        Check.row("the first of equal ones", x, 1, 2);
    }
}
