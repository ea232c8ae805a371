/** The boundary cases of promises 31 to 34, each by a test of its own. */
public final class CakesEdgesTest {
    private CakesEdgesTest() {
    }

    public static void main(String[] args) {
        holdBounds();
        holdFewest();
        holdMostCakes();
        holdNotBy999();
        holdNobodyServes();
        holdRefused();
        bribeBounds();
        bribeFewest();
        bribeMostCakes();
        bribeNotBy999();
        bribeRefused();
        starveBounds();
        starveOneIsLeft();
        starveNoneDo();
        starveRefused();
        cheapestOfEqualOnes();
        cheapestWhoServes();
        cheapestNobody();
        Check.close();
    }

    /** "by which it serves for all of the next n WEEKS (0 .. 60) BY WILL" */
    private static void holdBounds() {
        HeavierServes x = Check.with("40;50", "n=60");
        x.stand(1);
        Check.due("0 weeks", x.hold(0), 0);
        Check.due("59 weeks", x.hold(59), 0);
        Check.due("60 weeks", x.hold(60), 10);
        Check.due("1 week", x.hold(1), 0);
        x = Check.with("60;40", "0");
        x.stand(2);
        Check.due("the heavier one never wills", x.hold(60), 0);
        Alike.refused("hold changes nothing", Alike::some, 0, y -> y.hold(60));
        Alike.refused("hold changes nothing", Alike::full, 0, y -> y.hold(60));
    }

    /** "The fewest cakes (0 .. 999)": as much as another one is enough, by the scale, too. */
    private static void holdFewest() {
        HeavierServes x = Check.with("40;50");
        x.stand(1);
        Check.due("as heavy", x.hold(1), 10);
        x.scale(0, 7);
        Check.due("49 of 50 with grain 7", x.hold(1), 9);
        x.scale(0, 1);
        x.scale(1, -9);
        Check.due("off by as much for both", x.hold(1), 10);
        Check.due("weight is as it was", x.of(0, 0), 40);
    }

    private static void holdMostCakes() {
        HeavierServes x = Check.with("1;999");
        x.stand(1);
        Check.due("998 cakes", x.hold(1), 998);
        Check.due("998 cakes", x.hold(60), 998);
        x = Check.with("990;999");
        x.stand(1);
        Check.due("999 at most", x.hold(60), 9);
    }

    /** "-2: not by 999" */
    private static void holdNotBy999() {
        HeavierServes x = Check.with("1-1;999");
        x.stand(1);
        Check.due("one week", x.hold(1), 998);
        Check.due("two weeks", x.hold(2), -2);
        Check.due("0 weeks", x.hold(0), 0);
        Alike.refused("not by 999", () -> {
            HeavierServes z = Check.with("1-1;999");
            z.stand(1);
            z.then(3);
            return z;
        }, -2, z -> z.hold(2));
    }

    /** "-3: nobody serves" */
    private static void holdNobodyServes() {
        Alike.refused("nobody serves", () -> Check.with("40;50"), -3, x -> x.hold(0));
        Alike.refused("nobody serves", () -> Check.with("40;50"), -3, x -> x.hold(60));
        Alike.refused("nobody is there", Alike::fresh, -3, x -> x.hold(1));
        HeavierServes x = Alike.some();
        x.dies(0);
        Check.due("who served is dead", x.hold(1), -3);
    }

    /** "NONE: another n." */
    private static void holdRefused() {
        for (int n : Alike.outside(0, 60)) {
            Alike.refused("hold(" + n + ")", Alike::some, -1, x -> x.hold(n));
            Alike.refused("hold(" + n + ") of nobody", Alike::fresh, -1, x -> x.hold(n));
        }
    }

    /** "by which it serves n WEEKS (1 .. 60) on BY WILL .. the ROW: for how many of these WEEKS it serves then" */
    private static void bribeBounds() {
        HeavierServes x = Check.with("40;50", "(i=0)*(n=59)+(n=0)*i");
        Check.due("1 week on", x.bribe(0, 1), -2);
        Check.due("59 weeks on", x.bribe(0, 59), -2);
        Check.due("60 weeks on", x.bribe(0, 60), 11);
        Check.row("one of them", x, 1);
        Check.due("1 week on", x.bribe(1, 1), 0);
        Check.row("all of them", x, 1);
        Check.due("60 weeks on", x.bribe(1, 60), 0);
        Check.row("all of them", x, 60);
        Alike.tells("bribe", Alike::some, y -> y.bribe(1, 60));
        Alike.tells("bribe", Alike::full, y -> y.bribe(7, 60));
    }

    private static void bribeFewest() {
        HeavierServes x = Check.with("40;50");
        Check.due("as heavy, the first", x.bribe(0, 1), 10);
        x = Check.with("50;40");
        Check.due("as heavy, not the first", x.bribe(1, 1), 11);
        x.scale(0, 7);
        Check.due("56 with grain 7", x.bribe(1, 1), 16);
        x.stand(1);
        x.scale(0, 1);
        Check.due("more than who serves", x.bribe(1, 1), 11);
        Check.due("who serves", x.bribe(0, 60), 0);
        Check.row("who serves", x, 60);
    }

    private static void bribeMostCakes() {
        HeavierServes x = Check.with("1;999");
        Check.due("998 cakes", x.bribe(0, 1), 998);
        Check.row("998 cakes", x, 1);
        x = Check.with("1;998");
        x.stand(2);
        Check.due("998 cakes", x.bribe(0, 60), 998);
        Check.row("998 cakes", x, 60);
    }

    /** "-2: not by 999" */
    private static void bribeNotBy999() {
        Alike.Maker maker = () -> {
            HeavierServes x = Check.with("1;999");
            x.stand(2);
            x.then(2);
            return x;
        };
        Alike.refused("not by 999", maker, -2, x -> x.bribe(0, 1));
        Alike.refused("not by 999", maker, -2, x -> x.bribe(0, 60));
        Alike.refused("it never wills", () -> Check.with("40;50", "i=1"), -2, x -> x.bribe(0, 60));
    }

    /** "one ALIVE .. NONE: others." */
    private static void bribeRefused() {
        for (int n : Alike.outside(1, 60)) {
            Alike.refused("bribe(0, " + n + ")", Alike::some, -1, x -> x.bribe(0, n));
        }
        for (int person : Alike.outside(0, 3)) {
            Alike.refused("bribe(" + person + ", 1)", Alike::some, -1, x -> x.bribe(person, 1));
        }
        for (int person : Alike.NOBODIES) {
            Alike.refused("bribe(" + person + ", 1) of eight", Alike::full, -1, x -> x.bribe(person, 1));
        }
        Alike.refused("bribe one not alive", Alike::some, -1, x -> x.bribe(3, 1));
        Alike.refused("bribe nobody", Alike::fresh, -1, x -> x.bribe(0, 1));
    }

    /** "so that it serves in none of the next n WEEKS (0 .. 60) BY WILL" */
    private static void starveBounds() {
        HeavierServes x = Check.with("40;50", "(i=0)+(n=59)");
        Check.due("0 weeks", x.starve(1, 0), 0);
        Check.due("59 weeks", x.starve(1, 59), 0);
        Check.due("60 weeks, as heavy as who serves", x.starve(1, 60), 10);
        x = Check.with("50;40");
        Check.due("the first of equal ones serves", x.starve(0, 1), 11);
        x = Check.with("40;50");
        Check.due("not the first of equal ones", x.starve(1, 1), 10);
        x.scale(0, 7);
        Check.due("41 with grain 7", x.starve(1, 1), 9);
        Alike.refused("starve changes nothing", Alike::some, 0, y -> y.starve(1, 60));
        Alike.refused("starve changes nothing", Alike::full, 0, y -> y.starve(7, 60));
    }

    /** "(1 is left at least)" */
    private static void starveOneIsLeft() {
        HeavierServes x = Check.with("1;999");
        Check.due("998 ounces", x.starve(1, 1), 998);
        x = Check.with("999;1");
        Check.due("with 1 it is the first of equal ones", x.starve(0, 1), -2);
        x = Check.with("999;2");
        Check.due("with 1 it is lighter", x.starve(0, 1), 998);
        Check.due("weight is as it was", x.of(0, 0), 999);
    }

    /** "-2: none do" */
    private static void starveNoneDo() {
        Alike.refused("alone", () -> Check.with("40"), -2, x -> x.starve(0, 1));
        Alike.refused("alone, for no week", () -> Check.with("40"), 0, x -> x.starve(0, 0));
        Alike.refused("who serves is outweighed with 5", Alike::full, 2, x -> x.starve(2, 1));
        Alike.refused("who serves is outweighed by none", () -> {
            HeavierServes x = Check.with("40;50", "0");
            x.stand(1);
            return x;
        }, -2, x -> x.starve(0, 1));
        Alike.refused("nobody else wills", () -> Check.with("40;50", "i=0"), -2, x -> x.starve(0, 60));
        Alike.refused("nobody else wills", () -> Check.with("50;40", "i=1"), -2, x -> x.starve(1, 60));
    }

    /** "one ALIVE .. NONE: others." */
    private static void starveRefused() {
        for (int n : Alike.outside(0, 60)) {
            Alike.refused("starve(0, " + n + ")", Alike::some, -1, x -> x.starve(0, n));
        }
        for (int person : Alike.outside(0, 3)) {
            Alike.refused("starve(" + person + ", 1)", Alike::some, -1, x -> x.starve(person, 1));
        }
        for (int person : Alike.NOBODIES) {
            Alike.refused("starve(" + person + ", 1) of eight", Alike::full, -1, x -> x.starve(person, 1));
        }
        Alike.refused("starve one not alive", Alike::some, -1, x -> x.starve(3, 1));
        Alike.refused("starve one not alive, for no week", Alike::some, -1, x -> x.starve(3, 0));
        Alike.refused("starve nobody", Alike::fresh, -1, x -> x.starve(0, 0));
    }

    /** "of equal ones the first: it; the ROW: how many cakes" */
    private static void cheapestOfEqualOnes() {
        HeavierServes x = Check.with("40;50;50", "0");
        Check.due("all by 0 cakes", x.cheapest(), 0);
        Check.row("all by 0 cakes", x, 0);
        x = Check.with("40;50;50", "i>0");
        Check.due("two that will", x.cheapest(), 1);
        Check.row("two that will", x, 0);
        x = Check.with("50;50");
        Check.due("the first of two as heavy", x.cheapest(), 0);
        HeavierServes last = Check.with("1;2;3;4;5;6;7;8");
        Check.due("the last", last.cheapest(), 7);
        Alike.tells("cheapest", Alike::some, HeavierServes::cheapest);
        Alike.tells("cheapest", Alike::full, HeavierServes::cheapest);
    }

    /** "if it STANDS (unless it serves) and all others BY WILL" */
    private static void cheapestWhoServes() {
        HeavierServes x = Check.with("40;50;30", "0");
        x.stand(1);
        Check.due("who serves needs none", x.cheapest(), 0);
        Check.row("who serves needs none", x, 0);
        x = Check.with("50;40;45", "0");
        x.stand(2);
        // 0 is heavier, stands, and needs none; so does 1, who serves, as the others do not will.
        Check.due("the first", x.cheapest(), 0);
        Check.will(x, "i=2");
        x.set(0, 0, 41);
        Check.due("2 outweighs 0 and who serves", x.cheapest(), 2);
        Check.row("2 outweighs 0 and who serves", x, 0);
    }

    /** "-2: by 999 nobody does." */
    private static void cheapestNobody() {
        Alike.refused("nobody is there", Alike::fresh, -2, HeavierServes::cheapest);
        Alike.refused("nobody is alive", () -> {
            HeavierServes x = Check.with("40;50");
            x.then(2);
            x.dies(0);
            x.dies(1);
            return x;
        }, -2, HeavierServes::cheapest);
        HeavierServes x = Check.with("40;50");
        x.dies(1);
        Check.due("the only one alive", x.cheapest(), 0);
        Check.row("the only one alive", x, 0);
    }
}
