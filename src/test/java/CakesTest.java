/** Promises 31 to 34. */
public final class CakesTest {
    private CakesTest() {
    }

    public static void main(String[] args) {
        hold();
        bribe();
        starve();
        cheapest();
        cheapestBehindTheCakes();
        Check.close();
    }

    private static void hold() {
        HeavierServes x = Check.with("40;30+2;20+1");
        Check.due("nobody serves", x.hold(5), -3);
        Check.due("n 61 ahead of that", x.hold(61), -1);
        x.stand(1);
        // 32, 34, .. against 40: 42 in week 6, which is the sixth week on.
        Check.due("five weeks", x.hold(5), 0);
        Check.due("six weeks", x.hold(6), 2);
        Check.due("no week", x.hold(0), 0);
        Check.due("sixty weeks", x.hold(60), 110);
        Check.due("n -1", x.hold(-1), -1);
        Check.due("weight", x.of(0, 0), 40);
        // The other wills only against one of an odd weight: an even one holds.
        x = Check.with("41;500", "v-v/2*2");
        x.stand(1);
        Check.due("an even weight", x.hold(9), 1);
        // Against all but 999 the other one, 999, is heavier; an equal one is not outweighed.
        x = Check.with("990;999");
        x.stand(1);
        Check.due("999", x.hold(60), 9);
        x.scale(0, 9);
        Check.due("999 shows 999", x.hold(60), 9);
        x.scale(0, 1);
        x = Check.with("990-1;999");
        x.stand(1);
        Check.due("not by 999", x.hold(60), -2);
    }

    private static void bribe() {
        HeavierServes x = Check.with("40;50;60-3", "i<2");
        Check.due("one week", x.bribe(0, 1), 10);
        Check.row("one week", x, 1);
        Check.due("ten weeks", x.bribe(0, 10), 10);
        Check.row("ten weeks", x, 10);
        Check.due("no cakes", x.bribe(1, 5), 0);
        Check.row("no cakes", x, 5);
        Check.due("it never wills", x.bribe(2, 5), -2);
        Check.row("the row stays", x, 5);
        x.stand(4);
        // 2 has 57, 54, 51, 48: 50 comes in the fourth week, and stays.
        Check.due("later", x.bribe(1, 4), 0);
        Check.row("later", x, 1);
        Check.due("sooner", x.bribe(1, 3), 2);
        Check.row("sooner", x, 1);
        Check.due("sooner still", x.bribe(0, 60), 10);
        Check.due("none such", x.bribe(3, 1), -1);
        Check.due("none such", x.bribe(-1, 1), -1);
        Check.due("n 0", x.bribe(0, 0), -1);
        Check.due("n 61", x.bribe(0, 61), -1);
        x.dies(0);
        Check.due("not alive", x.bribe(0, 1), -1);
        HeavierServes y = Check.with("1;999", "w<999");
        y.stand(2);
        Check.due("not by 999", y.bribe(0, 9), -2);
        // It wills only at a weight of 77.
        y = Check.with("40;50", "(w=77)*(i=0)");
        Check.due("just so many", y.bribe(0, 3), 37);
        Check.due("weight", y.of(0, 0), 40);
    }

    private static void starve() {
        HeavierServes x = Check.with("60;50+1;40");
        Check.due("one week", x.starve(0, 1), 10 + 1);
        Check.due("no week", x.starve(0, 0), 0);
        Check.due("ten weeks", x.starve(0, 10), 11);
        Check.due("it does not anyhow", x.starve(2, 60), 0);
        Check.due("it comes in the twelfth", x.starve(1, 11), 0);
        Check.due("it comes in the twelfth", x.starve(1, 12), 1);
        Check.due("none such", x.starve(3, 1), -1);
        Check.due("none such", x.starve(-1, 1), -1);
        Check.due("n -1", x.starve(0, -1), -1);
        Check.due("n 61", x.starve(0, 61), -1);
        x.dies(1);
        x.dies(2);
        Check.due("alone", x.starve(0, 1), -2);
        Check.due("not alive", x.starve(1, 1), -1);
        HeavierServes y = Check.with("60;1");
        Check.due("1 is left, the first of equal ones", y.starve(0, 1), -2);
        y = Check.with("1;60");
        Check.due("1 is left", y.starve(1, 1), 59);
        Check.due("weight", y.of(1, 0), 60);
    }

    private static void cheapest() {
        HeavierServes x = new HeavierServes();
        Check.due("nobody", x.cheapest(), -2);
        Check.row("no row", x);
        x = Check.with("40;50;60");
        Check.due("the heaviest", x.cheapest(), 2);
        Check.row("the heaviest", x, 0);
        Check.will(x, "0");
        Check.due("of equal ones the first", x.cheapest(), 0);
        Check.row("of equal ones the first", x, 0);
        x.stand(2);
        Check.due("who serves", x.cheapest(), 1);
        Check.row("who serves", x, 0);
        Check.will(x, "i=2");
        x.set(0, 2, 55);
        Check.due("the heavier one", x.cheapest(), 2);
        Check.row("the heavier one", x, 0);
        Check.will(x, "(i=2)*(v<55)");
        Check.due("the heavier one", x.cheapest(), 2);
        x.dies(2);
        Check.due("who serves", x.cheapest(), 1);
        x.dies(1);
        Check.due("the last one", x.cheapest(), 0);
        x.dies(0);
        Check.due("nobody alive", x.cheapest(), -2);
        Check.row("the row stays", x, 0);
    }

    private static void cheapestBehindTheCakes() {
        // By will 2 comes; the others would have to eat: 0 as many as outweigh 2, 1 as many as change 2's will.
        HeavierServes x = Check.with("40;50;55", "v<53");
        x.stand(2);
        Check.due("2 needs none", x.cheapest(), 2);
        Check.row("2 needs none", x, 0);
        x = Check.with("40;50;55*1;55*1", "(v<53)*p");
        x.stand(2);
        Check.due("2 is the first of equal ones", x.cheapest(), 2);
        x = Check.with("999;999");
        x.stand(1);
        Check.due("who serves", x.cheapest(), 0);
        Check.row("who serves", x, 0);
        x = Check.with("900*1;30;20");
        x.scale(0, 5);
        x.dies(0);
        Check.due("the heavier one of two", x.cheapest(), 1);
        x.stand(4);
        Check.due("it outweighs who serves", x.cheapest(), 1);
        Check.row("it outweighs who serves", x, 0);
        // 18 shows 15, less than 20.
        x.fast(1, 12);
        Check.due("who serves stays", x.cheapest(), 2);
    }
}
