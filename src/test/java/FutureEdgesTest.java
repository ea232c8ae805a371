/** The boundary cases of promises 22 to 30, each by a test of its own. */
public final class FutureEdgesTest {
    private FutureEdgesTest() {
    }

    public static void main(String[] args) {
        laterBounds();
        laterPutToBounds();
        laterRefused();
        thenBounds();
        thenNobody();
        thenRefused();
        soonestBounds();
        soonestNotInThem();
        soonestServesNow();
        soonestRefused();
        everBounds();
        everOfTwelve();
        everNobodyServes();
        everRefused();
        mostBounds();
        mostStandingForNothing();
        mostFewestThenLeast();
        mostRefused();
        restsBounds();
        restsNoRound();
        restsWholeRoundIn();
        restsAsGoodOnes();
        restsNotAlive();
        restsRefused();
        partyBounds();
        partyOfEqualOnes();
        partyNobodyServes();
        partyRefused();
        byTurnsBounds();
        byTurnsRound();
        byTurnsNotAlive();
        byTurnsWhoServes();
        byTurnsBelowZero();
        byTurnsRefused();
        foolBounds();
        foolBelowZero();
        foolNoSuch();
        Check.close();
    }

    /** "WEIGHT of one n WEEKS (0 .. 99) on." */
    private static void laterBounds() {
        HeavierServes x = Check.with("100+1;200-1-2;300");
        Check.due("0 on", x.later(0, 0), 100);
        Check.due("1 on", x.later(0, 1), 101);
        Check.due("99 on", x.later(0, 99), 199);
        Check.due("0 on", x.later(1, 0), 200);
        Check.due("99 on", x.later(1, 99), 200 - 50 - 2 * 49);
        Check.due("99 on without a habit", x.later(2, 99), 300);
        x.weeks(1);
        Check.due("1 on, of the second change", x.later(1, 1), 197);
        Check.due("99 on", x.later(1, 99), 199 - 49 - 2 * 50);
        HeavierServes three = Check.with("100+1+2+4");
        three.weeks(1);
        Check.due("2 on, of the second and the third change", three.later(0, 2), 107);
        Check.due("3 on, and of the first again", three.later(0, 3), 108);
        Alike.refused("later changes nothing", Alike::some, 61 + 5 * 3 - 4 * 2, y -> y.later(0, 9));
    }

    private static void laterPutToBounds() {
        HeavierServes x = Check.with("998+1-1;999+1-1;2-1+1;1-1+1;995+9-4");
        Check.due("999", x.later(0, 1), 999);
        Check.due("998", x.later(0, 2), 998);
        Check.due("999 at most", x.later(1, 1), 999);
        Check.due("998", x.later(1, 2), 998);
        Check.due("1", x.later(2, 1), 1);
        Check.due("1 at least", x.later(3, 1), 1);
        Check.due("2", x.later(3, 2), 2);
        Check.due("put to 999 on the way", x.later(4, 2), 995);
    }

    /** "NONE: none such, not ALIVE, another n." */
    private static void laterRefused() {
        for (int n : Alike.outside(0, 99)) {
            Alike.refused("later(0, " + n + ")", Alike::some, -1, x -> x.later(0, n));
        }
        for (int person : Alike.outside(0, 3)) {
            Alike.refused("later(" + person + ", 1)", Alike::some, -1, x -> x.later(person, 1));
        }
        for (int person : Alike.NOBODIES) {
            Alike.refused("later(" + person + ", 1) of eight", Alike::full, -1, x -> x.later(person, 1));
        }
        Alike.refused("later of one not alive", Alike::some, -1, x -> x.later(3, 1));
        Alike.refused("later of one not alive, 0 on", Alike::some, -1, x -> x.later(3, 0));
        Alike.refused("later of nobody", Alike::fresh, -1, x -> x.later(0, 0));
    }

    /** "Who serves n WEEKS (0 .. 99) on BY WILL .. for how many of these WEEKS each of PEOPLE served" */
    private static void thenBounds() {
        HeavierServes x = Check.with("40;50;60", "(i=0)+(n=98)*(i=2)");
        x.stand(1);
        Check.due("0 on: now", x.then(0), 0);
        Check.row("0 on", x, 0, 0, 0);
        Check.due("97 on", x.then(97), 0);
        Check.row("97 on", x, 97, 0, 0);
        Check.due("98 on", x.then(98), 2);
        Check.due("99 on", x.then(99), 2);
        Check.row("99 on", x, 97, 0, 2);
        Alike.tells("then", Alike::some, y -> y.then(99));
        Alike.tells("then", Alike::full, y -> y.then(99));
        HeavierServes eight = Alike.full();
        eight.then(1);
        Check.row("eight numbers", eight, 0, 0, 1, 0, 0, 0, 0, 0);
    }

    /** "(NONE: nobody)" */
    private static void thenNobody() {
        HeavierServes x = Check.with("40;50", "n=1");
        Check.due("now", x.then(0), -1);
        Check.due("1 on", x.then(1), -1);
        Check.row("1 on", x, 0, 0);
        Check.due("2 on", x.then(2), 1);
        HeavierServes nobody = new HeavierServes();
        Check.due("nobody is there", nobody.then(99), -1);
        Check.row("no numbers", nobody);
    }

    /** "-2: another n." */
    private static void thenRefused() {
        for (int n : Alike.outside(0, 99)) {
            Alike.refused("then(" + n + ")", Alike::some, -2, x -> x.then(n));
            Alike.refused("then(" + n + ") of nobody", Alike::fresh, -2, x -> x.then(n));
        }
    }

    /** "After how many WEEKS (1 .. 99) BY WILL one serves first" */
    private static void soonestBounds() {
        HeavierServes x = Check.with("40;50;60;70;80", "n=i+i/2*96");
        Check.due("1", x.soonest(0), 1);
        Check.due("2", x.soonest(1), 2);
        Check.due("99", x.soonest(2), 99);
        Check.due("not in 99", x.soonest(3), -2);
        x.stand(0);
        Check.due("99 from the next week on", x.soonest(3), 99);
        Alike.refused("soonest changes nothing", Alike::some, -2, y -> y.soonest(1));
    }

    /** "-2: not in them" */
    private static void soonestNotInThem() {
        HeavierServes x = Check.with("40;50;60", "i<2");
        Check.due("too light", x.soonest(0), -2);
        Check.due("never wills", x.soonest(2), -2);
        HeavierServes first = Check.with("50;40", "i=1");
        Check.due("the first never wills", first.soonest(0), -2);
        x.dies(1);
        Check.due("not alive", x.soonest(1), -2);
        Check.due("the heaviest now", x.soonest(0), 1);
    }

    /** "-3: it serves now" */
    private static void soonestServesNow() {
        HeavierServes x = Alike.some();
        Check.due("it serves now", x.soonest(0), -3);
        x.dies(0);
        Check.due("not any more", x.soonest(0), -2);
        Alike.refused("who serves", Alike::full, -3, y -> y.soonest(2));
    }

    /** "NONE: none such." */
    private static void soonestRefused() {
        for (int person : Alike.outside(0, 3)) {
            Alike.refused("soonest(" + person + ")", Alike::some, -1, x -> x.soonest(person));
        }
        for (int person : Alike.NOBODIES) {
            Alike.refused("soonest(" + person + ") of eight", Alike::full, -1, x -> x.soonest(person));
        }
        // Nobody serves: person -1 must not be taken for who serves.
        Alike.refused("soonest(-1), nobody serving", Alike::fresh, -1, x -> x.soonest(-1));
    }

    /** "in one of the next n WEEKS (0 .. 12), whoever STANDS in each; the ROW: those who can in the last of them" */
    private static void everBounds() {
        HeavierServes x = Check.with("40;30+2");
        x.stand(1);
        // 32 to 40 in weeks 1 to 5, 42 in week 6.
        Check.due("0", x.ever(0), 0);
        Check.row("0", x, 0);
        Check.due("5", x.ever(5), 1);
        Check.row("5", x, 1);
        Check.due("6", x.ever(6), 3);
        Check.row("6", x, 3);
        Check.due("12", x.ever(12), 3);
        Alike.tells("ever", Alike::some, y -> y.ever(12));
        Alike.tells("ever", Alike::full, y -> y.ever(12));
    }

    private static void everOfTwelve() {
        HeavierServes x = Check.with("40;18+2");
        x.stand(1);
        Check.due("12", x.ever(12), 3);
        Check.due("11", x.ever(11), 1);
        x = Check.with("40;16+2");
        x.stand(1);
        Check.due("in the thirteenth", x.ever(12), 1);
    }

    private static void everNobodyServes() {
        HeavierServes x = Check.with("1;999;5");
        Check.due("all", x.ever(1), 7);
        Check.row("all", x, 7);
        x.scale(1, -9);
        x.dies(2);
        Check.due("one that shows 0, too; not one not alive", x.ever(12), 3);
        HeavierServes nobody = new HeavierServes();
        Check.due("nobody", nobody.ever(12), 0);
        Check.row("nobody", nobody, 0);
    }

    /** "NONE: another n." */
    private static void everRefused() {
        for (int n : Alike.outside(0, 12)) {
            Alike.refused("ever(" + n + ")", Alike::some, -1, x -> x.ever(n));
            Alike.refused("ever(" + n + ") of nobody", Alike::fresh, -1, x -> x.ever(n));
        }
    }

    /** "The most of the next n WEEKS (0 .. 10)" */
    private static void mostBounds() {
        HeavierServes x = Check.with("40;50", "0");
        Check.due("0", x.most(0, 0), 0);
        Check.row("0", x, 0);
        Check.due("1", x.most(0, 1), 1);
        Check.row("1", x, 1);
        Check.due("10", x.most(1, 10), 10);
        Check.row("10", x, 1);
        HeavierServes late = Check.with("40+1;49");
        late.stand(2);
        // 41 in week 1, 50 in week 10: the tenth of the next.
        Check.due("the tenth", late.most(0, 10), 1);
        Check.row("the tenth", late, 512);
        Check.due("not in nine", late.most(0, 9), 0);
        Check.row("not in nine", late, 0);
        Alike.tells("most", Alike::some, y -> y.most(1, 10));
        Alike.tells("most", Alike::full, y -> y.most(0, 10));
    }

    /** WEEKS in which it STANDS for nothing are not among the fewest. */
    private static void mostStandingForNothing() {
        HeavierServes x = Check.with("40;50", "0");
        x.stand(2);
        Check.due("too light", x.most(0, 10), 0);
        Check.row("too light", x, 0);
        Check.due("it serves", x.most(1, 10), 10);
        Check.row("it serves", x, 0);
    }

    /** "the fewest such, then the least number" */
    private static void mostFewestThenLeast() {
        // Whenever it stands, it serves to the end; the other, heavier one comes once somebody served for 3 weeks.
        HeavierServes x = Check.with("40;50", "s=3");
        Check.due("three of ten", x.most(0, 10), 3);
        Check.row("at once, the least number", x, 1);
        x = Check.with("50-9+9;45", "s>0");
        Check.due("three of five", x.most(0, 5), 3);
        Check.row("two weeks are fewer than three", x, 2 + 16);
        // 0 has 47 44 41 41 49 46 43 43, 1 has 45 41 44 46 42 45 47 43 and wills till it has served for 3.
        x = Check.with("47-3-3-0+8;45-4+3+2", "o<3");
        Check.due("five of eight", x.most(0, 8), 5);
        Check.row("1 and 4, not 0 and 5, which are as many and as few", x, 2 + 16);
        // 0 has 48 48 45 45 42 42, 2 has 42 51 44 43 46 55: standing in 0 and 2 gives as many as in 3 alone.
        x = Check.with("48-0-3;40-3;42+9-7-1+3", "o<3");
        Check.due("three of six", x.most(0, 6), 3);
        Check.row("one week is fewer, of a greater number", x, 8);
    }

    /** "NONE: none such, not ALIVE, another n." */
    private static void mostRefused() {
        for (int n : Alike.outside(0, 10)) {
            Alike.refused("most(0, " + n + ")", Alike::some, -1, x -> x.most(0, n));
        }
        for (int person : Alike.outside(0, 3)) {
            Alike.refused("most(" + person + ", 1)", Alike::some, -1, x -> x.most(person, 1));
        }
        for (int person : Alike.NOBODIES) {
            Alike.refused("most(" + person + ", 1) of eight", Alike::full, -1, x -> x.most(person, 1));
        }
        Alike.refused("most of one not alive", Alike::some, -1, x -> x.most(3, 1));
        Alike.refused("most of nobody", Alike::fresh, -1, x -> x.most(0, 0));
    }

    /** "WEEKS of the next n (1 .. 4) in which it STANDS, at first all; round by round (m at most, 0 .. 20)" */
    private static void restsBounds() {
        HeavierServes x = Check.with("40;50;60");
        for (int n = 1; n <= 4; n++) {
            int all = (1 << n) - 1;
            Check.due("rests(" + n + ", 20)", x.rests(n, 20), 1);
            Check.row("rests(" + n + ", 20)", x, 1, all, all, all);
            Check.due("rests(" + n + ", 1)", x.rests(n, 1), 1);
            Check.row("rests(" + n + ", 1)", x, 1, all, all, all);
        }
        Alike.tells("rests", Alike::some, y -> y.rests(4, 20));
        Alike.tells("rests", Alike::full, y -> y.rests(4, 20));
        HeavierServes eight = Alike.full();
        eight.rests(1, 1);
        Check.row("plans of all eight", eight, 1, 1, 1, 1, 1, 1, 1, 1, 1);
        HeavierServes nobody = new HeavierServes();
        Check.due("nobody", nobody.rests(4, 20), 1);
        Check.row("nobody", nobody, 1);
    }

    private static void restsNoRound() {
        for (int n = 1; n <= 4; n++) {
            HeavierServes x = Check.with("40;50");
            Check.due("no round", x.rests(n, 0), 0);
            Check.row("it did not come to that", x, 0, (1 << n) - 1, (1 << n) - 1);
        }
    }

    private static HeavierServes turning() {
        HeavierServes x = Check.with("54-9+9+0+9;45+9+0+0-9;54+0-9+0+9;45+9+0+0+0");
        x.scale(0, 9);
        return x;
    }

    /** "till a whole one in which none takes another one (that one, too)" */
    private static void restsWholeRoundIn() {
        HeavierServes x = turning();
        Check.due("the second is whole", x.rests(4, 20), 2);
        Check.row("the second is whole", x, 1, 4, 15, 15, 15);
        Check.due("just two", x.rests(4, 2), 2);
        Check.row("just two", x, 1, 4, 15, 15, 15);
        Check.due("one is too few", x.rests(4, 1), 1);
        Check.row("one is too few", x, 0, 4, 15, 15, 15);
    }

    /** "(of as good ones its own, then the least number)" */
    private static void restsAsGoodOnes() {
        // By all its plans 0 serves in none, 1 in all: each keeps its own, which is not the least.
        HeavierServes x = Check.with("40;50");
        x.stand(2);
        Check.due("one round", x.rests(3, 20), 1);
        Check.row("its own", x, 1, 7, 7);
        // 0 has 51 43 52, 1 has 50 51 52, 2 has 51: 0 serves for one week, by week 0 or by week 2, and would go on.
        x = Check.with("51-8+9-5;50+1;51");
        Check.due("a week behind the last does not count", x.rests(3, 20), 1);
        Check.row("a week behind the last does not count", x, 1, 7, 7, 7);
        // Plans 4 to 7 and 12 to 15 but for those that take week 0 are as good: the least is 4.
        x = turning();
        x.rests(4, 1);
        Check.due("the least number", x.row(1), 4);
    }

    /** "each that is ALIVE" */
    private static void restsNotAlive() {
        HeavierServes x = turning();
        x.dies(0);
        Check.due("one round", x.rests(4, 20), 1);
        Check.row("all stand, in the plan of one not alive, too", x, 1, 15, 15, 15, 15);
        x.dies(1);
        x.dies(2);
        x.dies(3);
        Check.due("none alive", x.rests(2, 20), 1);
        Check.row("none alive", x, 1, 3, 3, 3, 3);
    }

    /** "NONE: others." */
    private static void restsRefused() {
        for (int n : Alike.outside(1, 4)) {
            Alike.refused("rests(" + n + ", 1)", Alike::some, -1, x -> x.rests(n, 1));
        }
        for (int m : Alike.outside(0, 20)) {
            Alike.refused("rests(1, " + m + ")", Alike::some, -1, x -> x.rests(1, m));
            Alike.refused("rests(4, " + m + ") of nobody", Alike::fresh, -1, x -> x.rests(4, m));
        }
    }

    /** "for the most of the next n WEEKS (0 .. 99) BY WILL" */
    private static void partyBounds() {
        HeavierServes x = Check.with("40*3;50*0", "(i=0)+(n=98)");
        Check.due("0", x.party(0), -1);
        Check.row("0", x, 0, 0, 0, 0, 0);
        Check.due("1", x.party(1), 3);
        Check.row("1", x, 0, 0, 0, 1, 1);
        Check.due("98", x.party(98), 3);
        Check.row("98", x, 0, 0, 0, 98, 1);
        Check.due("99", x.party(99), 3);
        Check.row("99", x, 1, 0, 0, 98, 3);
        Alike.tells("party", Alike::some, y -> y.party(99));
        Alike.tells("party", Alike::full, y -> y.party(99));
    }

    /** "of equal ones the first" */
    private static void partyOfEqualOnes() {
        HeavierServes x = Check.with("40*3;50*2;60*1;70*0", "n=i");
        for (int n = 1; n <= 4; n++) {
            Check.due("of " + n + " equal ones", x.party(n), 4 - n);
        }
        Check.row("four equal ones", x, 1, 1, 1, 1, 15);
        Check.due("more", x.party(5), 0);
        Check.row("more", x, 2, 1, 1, 1, 15);
    }

    /** "NONE, if nobody serves in any of them" */
    private static void partyNobodyServes() {
        HeavierServes x = Check.with("40*3;50*0", "n=99");
        Check.due("nobody in 99", x.party(99), -1);
        Check.row("nobody in 99", x, 0, 0, 0, 0, 0);
        x.stand(0);
        Check.due("one in the last", x.party(99), 0);
        Check.row("one in the last", x, 1, 0, 0, 0, 2);
        HeavierServes nobody = new HeavierServes();
        Check.due("nobody is there", nobody.party(99), -1);
        Check.row("nobody is there", nobody, 0, 0, 0, 0, 0);
    }

    /** "-2: another n." */
    private static void partyRefused() {
        for (int n : Alike.outside(0, 99)) {
            Alike.refused("party(" + n + ")", Alike::some, -2, x -> x.party(n));
            Alike.refused("party(" + n + ") of nobody", Alike::fresh, -2, x -> x.party(n));
        }
    }

    /** "PEOPLE of a PARTY (0 .. 3) .. in each of the next n WEEKS (0 .. 99)" */
    private static void byTurnsBounds() {
        HeavierServes x = Check.with("40*0;50*3;60*3", "i=0");
        Check.due("0 weeks", x.byTurns(3, 0), 0);
        Check.row("0 weeks", x, 0);
        Check.due("1 week", x.byTurns(3, 1), 1);
        Check.row("1 week", x, 1);
        Check.due("99 weeks", x.byTurns(3, 99), 99);
        Check.row("99 weeks", x, 99);
        // Of party 0 its one stands in each week, by turns as by will; the others do not will.
        Check.due("party 0", x.byTurns(0, 99), 99);
        Check.row("party 0", x, 0);
        Check.due("a party of none", x.byTurns(1, 99), 0);
        Check.row("a party of none", x, 0);
        Check.due("nobody is there", new HeavierServes().byTurns(0, 99), 0);
        Alike.tells("byTurns", Alike::some, y -> y.byTurns(1, 99));
        Alike.tells("byTurns", Alike::full, y -> y.byTurns(0, 99));
    }

    /** "that comes next by numbers (from the first of them on, round ..)" */
    private static void byTurnsRound() {
        // 0, 2 and 4 take turns. 4 outweighs all but 3; its turns are weeks 2, 5, .. ; 3 wills in week 3 alone.
        HeavierServes x = Check.with("10*1;1*2;11*1;20*2;15*1", "(i=3)*(n=3)");
        Check.due("0, 2, 4", x.byTurns(1, 3), 3);
        Check.due("3 comes", x.byTurns(1, 4), 3);
        Check.row("nobody of them wills", x, 3);
        // The first again in week 3: with 30 it would hold against 20.
        x.set(0, 0, 5);
        Check.habit(x, 0, "+9");
        // 0 has 5, 14, 23, 32: in week 3 it is its turn again, and it is heavier than 3.
        Check.due("0 in week 3", x.byTurns(1, 4), 4);
        Check.due("0 goes on", x.byTurns(1, 99), 99);
        // One alone comes next each week: 1, who wills in week 0, is lighter in week 1.
        HeavierServes alone = Check.with("10*1+9;15*2", "(i=1)*(n=0)");
        Check.due("one alone, round", alone.byTurns(1, 2), 1);
        Check.row("one alone, round", alone, 1);
        // The eighth, then the first.
        HeavierServes far = Check.with("9*1-0-0+1;1;1;1;1;1;1;5*1", "0");
        Check.due("the first, the eighth, the first", far.byTurns(1, 3), 3);
        HeavierServes last = Check.with("1;1;1;1;1;1;1;5*1", "0");
        Check.due("the eighth is the first of them", last.byTurns(1, 1), 1);
    }

    /** "those ALIVE" */
    private static void byTurnsNotAlive() {
        HeavierServes x = Check.with("10*1;20*1;30*1;15*2", "(i=3)*(n=0)");
        Check.due("2 or 1 come behind 3", x.byTurns(1, 3), 2);
        x.dies(0);
        Check.due("1 is the first then", x.byTurns(1, 3), 3);
        x.dies(1);
        x.dies(2);
        Check.due("none of them", x.byTurns(1, 3), 0);
        Check.row("none of them", x, 0);
    }

    /** "none, if it serves" */
    private static void byTurnsWhoServes() {
        // 0 serves; in its turn, week 1, none stands, so that 1, who would be heavier, waits for week 2.
        HeavierServes x = Check.with("10*1;20*1;5*2", "0");
        x.stand(1);
        Check.due("one of them throughout", x.byTurns(1, 2), 2);
        Check.row("none more than by will", x, 0);
        // 2 wills in week 1 and is heavier than 0, whose turn it is.
        x = Check.with("10*1;20*1;15*2", "(i=2)*(n=1)");
        x.stand(1);
        Check.due("2 comes, then 1", x.byTurns(1, 2), 1);
        Check.row("2 comes, then 1", x, 1);
    }

    /** "how many more than BY WILL (may be below 0)" */
    private static void byTurnsBelowZero() {
        HeavierServes x = Check.with("10*0;70*0;60*1");
        Check.due("99 weeks", x.byTurns(0, 99), 98);
        Check.row("one less", x, -1);
        x = Check.with("10*0;65*0-9;60*1", "n=0");
        Check.due("never", x.byTurns(0, 99), 0);
        Check.row("by will in all", x, -99);
    }

    /** "NONE: others." */
    private static void byTurnsRefused() {
        for (int n : Alike.outside(0, 99)) {
            Alike.refused("byTurns(1, " + n + ")", Alike::some, -1, x -> x.byTurns(1, n));
        }
        for (int party : Alike.outside(0, 3)) {
            Alike.refused("byTurns(" + party + ", 1)", Alike::some, -1, x -> x.byTurns(party, 1));
            Alike.refused("byTurns(" + party + ", 0) of nobody", Alike::fresh, -1, x -> x.byTurns(party, 0));
        }
    }

    /** "for how many of the next n WEEKS (0 .. 99) BY WILL somebody of it serves, less for how many .." */
    private static void foolBounds() {
        HeavierServes x = Check.with("90*1;60*2;70*1;1;1;1;1;80*3");
        Check.due("0 weeks", x.fool(0, 0), 0);
        Check.row("0 weeks", x, 0, 0);
        Check.due("1 week", x.fool(0, 1), 1);
        Check.row("1 week", x, 1, 0);
        Check.due("99 weeks", x.fool(0, 99), 99);
        Check.row("99 weeks", x, 99, 0);
        Check.due("the last one", x.fool(7, 99), 0);
        Check.row("the last one", x, 0, 0);
        x.dies(7);
        Check.due("another one of the party comes", x.fool(0, 99), 0);
        Check.row("another one of the party comes", x, 99, 99);
        x.dies(0);
        Check.due("one not alive", x.fool(0, 99), 0);
        Check.row("one not alive", x, 99, 99);
        Alike.tells("fool", Alike::some, y -> y.fool(0, 99));
        Alike.tells("fool", Alike::full, y -> y.fool(7, 99));
    }

    private static void foolBelowZero() {
        HeavierServes x = Check.with("90*1-9;60*1;85*2", "(i=0)+(i=1)*(n=0)+(i=2)*(v>80)");
        Check.due("a harm", x.fool(0, 99), -98);
        Check.row("a harm", x, 1, 99);
    }

    /** "NoSuchElementException: none such, another n." */
    private static void foolNoSuch() {
        for (int n : Alike.outside(0, 99)) {
            Alike.noSuch("fool(0, " + n + ")", Alike::some, x -> x.fool(0, n));
        }
        for (int person : Alike.outside(0, 3)) {
            Alike.noSuch("fool(" + person + ", 1)", Alike::some, x -> x.fool(person, 1));
        }
        for (int person : Alike.NOBODIES) {
            Alike.noSuch("fool(" + person + ", 1) of eight", Alike::full, x -> x.fool(person, 1));
        }
    }
}
