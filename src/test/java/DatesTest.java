/** Promises 41 to 44. */
public final class DatesTest {
    private DatesTest() {
    }

    public static void main(String[] args) {
        told();
        explains();
        explainsLater();
        absent();
        Check.close();
    }

    private static void told() {
        HeavierServes x = Check.with("40;50");
        Check.due("nothing", x.wipe(), 0);
        Check.due("n 0", x.told(0, 0), -1);
        Check.due("n 61", x.told(0, 61), -1);
        Check.due("none such", x.told(2, 1), -1);
        Check.due("none such", x.told(-1, 1), -1);
        for (int k = 1; k <= 10; k++) {
            Check.due("told", x.told(k % 2, 6 * k), k);
        }
        Check.due("an eleventh", x.told(0, 1), -1);
        Check.due("told", x.count(9), 10);
        Check.due("wipe", x.wipe(), 10);
        Check.due("nothing", x.wipe(), 0);
        Check.due("told", x.count(9), 0);
        x.dies(0);
        Check.due("one not alive", x.told(0, 60), 1);
    }

    private static void explains() {
        HeavierServes x = Check.with("40;50+2;60-1");
        Check.due("nothing told", x.explains(0), 999);
        Check.row("nothing told", x, 1, 999);
        x.told(2, 1);
        // 60 has to be the heaviest.
        Check.due("0 is not heavier", x.explains(0), 59);
        Check.row("0 is not heavier", x, 1, 59);
        Check.due("2 is heavier", x.explains(2), 999 - 50);
        Check.row("2 is heavier", x, 51, 999);
        x.told(1, 4);
        // 2: 57 in week 3, then 1 has 56: week 3 comes too soon.
        Check.due("1 comes by the fourth", x.explains(1), 8);
        Check.row("1 comes by the fourth", x, 52, 59);
        x.told(2, 4);
        Check.due("two in one week", x.explains(1), 0);
        Check.row("two in one week", x);
        x.wipe();
        x.told(0, 3);
        x.told(0, 3);
        // With 59 it outweighs 2, which has 58 then, in the third week.
        Check.due("the same twice", x.explains(0), 999 - 58);
        Check.row("the same twice", x, 59, 999);
        x.dies(1);
        x.dies(2);
        Check.due("alone", x.explains(0), 999);
        Check.due("not alive", x.explains(1), -1);
        Check.due("none such", x.explains(3), -1);
        Check.due("none such", x.explains(-1), -1);
        Check.row("the row stays", x, 1, 999);
        Check.due("weight", x.of(0, 0), 40);
    }

    private static void explainsLater() {
        HeavierServes x = Check.with("40;50", "n=2");
        x.told(1, 1);
        Check.due("not yet", x.explains(1), 0);
        x.weeks(2);
        Check.due("from when it is asked for", x.explains(1), 999 - 40);
        Check.row("from when it is asked for", x, 41, 999);
        // A gap: 1 wills at an even weight alone.
        x = Check.with("40;50", "(i=0)+w/2*2=w+(i=0)");
        x.told(1, 60);
        Check.due("even ones above 40", x.explains(1), 479);
        Check.row("even ones above 40", x, 42, 998);
    }

    private static void absent() {
        HeavierServes x = Check.with("40;50;60");
        Check.due("nothing told", x.absent(), 7);
        Check.row("nothing told", x, 1);
        x.told(2, 1);
        Check.due("0 or 1", x.absent(), 3);
        Check.row("it is so", x, 1);
        x.wipe();
        x.told(1, 5);
        Check.due("2", x.absent(), 4);
        Check.row("it is not so", x, 0);
        x.wipe();
        x.told(0, 5);
        Check.due("none alone", x.absent(), 0);
        Check.row("it is not so", x, 0);
        x.dies(2);
        Check.due("1", x.absent(), 2);
        x.dies(1);
        Check.due("not alive", x.absent(), 0);
        Check.row("it is so", x, 1);
        x.told(2, 5);
        Check.due("two in one week", x.absent(), 0);
        Check.row("two in one week", x, 0);
    }
}
