/** Promises 35 to 40. */
public final class ScaleTest {
    private ScaleTest() {
    }

    public static void main(String[] args) {
        weighed();
        grains();
        span();
        spanOfAll();
        offs();
        cheats();
        Check.close();
    }

    private static void weighed() {
        HeavierServes x = Check.with("40;50");
        Check.due("none to forget", x.forget(), -1);
        Check.due("v -1", x.weighed(0, -1), -1);
        Check.due("v 1011", x.weighed(0, 1011), -1);
        Check.due("none such", x.weighed(2, 1), -1);
        Check.due("none such", x.weighed(-1, 1), -1);
        for (int k = 1; k <= 12; k++) {
            Check.due("weighed", x.weighed(k % 2, k % 3 == 0 ? 1010 : 0), k);
        }
        Check.due("a thirteenth", x.weighed(0, 5), -1);
        Check.due("weighings", x.count(8), 12);
        for (int k = 11; k >= 0; k--) {
            Check.due("forget", x.forget(), k);
        }
        Check.due("none to forget", x.forget(), -1);
        x.weighed(0, 41);
        x.weighed(0, 40);
        x.forget();
        Check.due("the latest is forgotten", x.span(0), 1);
        Check.row("the latest is forgotten", x, 41, 41);
    }

    private static void grains() {
        HeavierServes x = Check.with("40;50");
        Check.due("all", x.grains(), 1022);
        x.weighed(0, 12);
        Check.due("divisors of 12", x.grains(), 2 + 4 + 8 + 16 + 64);
        x.weighed(1, 9);
        Check.due("of 12 and 9", x.grains(), 2 + 8);
        x.weighed(0, 12);
        Check.due("the same once more", x.grains(), 2 + 8);
        x.weighed(0, 15);
        Check.due("one weight, two weighings", x.grains(), 0);
        x = Check.with("40");
        x.weighed(0, 1008);
        Check.due("too much", x.grains(), 0);
        x.scale(1, 9);
        Check.due("with 9 more", x.grains(), 2 + 4 + 8 + 16 + 64 + 128 + 256 + 512);
        x.forget();
        x.weighed(0, 0);
        // 1 + 9 at least: no grain up to 9 shows 0.
        Check.due("too little", x.grains(), 0);
        x.scale(1, 0);
        Check.due("1 shows 0 with grains from 2 on", x.grains(), 1022 - 2);
        x.scale(1, -5);
        Check.due("0 with all", x.grains(), 1022);
        x.forget();
        x.weighed(0, 1000);
        Check.due("with 5 less", x.grains(), 0);
    }

    private static void span() {
        HeavierServes x = Check.with("40;50");
        Check.due("none weighed", x.span(0), 999);
        Check.row("none weighed", x, 1, 999);
        x.scale(0, 5);
        x.weighed(0, 35);
        Check.due("five", x.span(0), 5);
        Check.row("five", x, 35, 39);
        Check.due("the other one", x.span(1), 999);
        x.scale(1, 3);
        Check.due("five", x.span(0), 5);
        Check.row("five", x, 32, 36);
        x.weighed(0, 40);
        Check.due("none", x.span(0), 0);
        Check.row("none", x);
        x.forget();
        x.forget();
        x.weighed(0, 36);
        Check.due("none shows so", x.span(0), 0);
        x.forget();
        x.weighed(0, 0);
        x.scale(1, -9);
        Check.due("all below", x.span(0), 13);
        Check.row("all below", x, 1, 13);
        x.forget();
        x.weighed(0, 990);
        Check.due("up to 999", x.span(0), 1);
        Check.row("up to 999", x, 999, 999);
        Check.due("none such", x.span(2), -1);
        Check.due("none such", x.span(-1), -1);
        Check.row("the row stays", x, 999, 999);
    }

    /** What of(0, 5) shows of each weight is what span() counts. */
    private static void spanOfAll() {
        for (int grain = 1; grain <= 9; grain += 2) {
            for (int off = -9; off <= 9; off += 6) {
                HeavierServes x = Check.with("40");
                x.scale(0, grain);
                x.scale(1, off);
                int[] counts = new int[1011];
                for (int weight = 1; weight <= 999; weight++) {
                    x.set(0, 0, weight);
                    counts[x.of(0, 5)]++;
                }
                for (int v = 0; v <= 1010; v++) {
                    x.weighed(0, v);
                    Check.due("span of " + v, x.span(0), counts[v]);
                    x.forget();
                }
            }
        }
    }

    private static void offs() {
        HeavierServes x = Check.with("40;50");
        Check.due("all", x.offs(), 19);
        Check.row("all", x, -9, 9);
        x.weighed(0, 43);
        Check.due("3", x.offs(), 1);
        Check.row("3", x, 3, 3);
        x.weighed(1, 52);
        Check.due("none", x.offs(), 0);
        Check.row("none", x);
        x.scale(0, 5);
        Check.due("none shows so", x.offs(), 0);
        x.forget();
        x.forget();
        x.weighed(0, 40);
        x.weighed(1, 50);
        x.scale(1, 9);
        Check.due("0 to 4", x.offs(), 5);
        Check.row("0 to 4", x, 0, 4);
        x.weighed(0, 45);
        Check.due("not twice", x.offs(), 0);
        x = Check.with("4");
        x.weighed(0, 0);
        Check.due("below 0", x.offs(), 6);
        Check.row("below 0", x, -9, -4);
        Check.due("off is as it was", x.count(13), 0);
    }

    private static void cheats() {
        HeavierServes x = Check.with("40;50;60");
        Check.due("none", x.cheats(), 0);
        Check.row("none", x, 0, -9);
        x.weighed(0, 43);
        x.weighed(1, 53);
        x.weighed(2, 61);
        Check.due("one", x.cheats(), 1);
        Check.row("one", x, 4, 3);
        x.forget();
        x.weighed(2, 70);
        Check.due("one", x.cheats(), 1);
        x.weighed(1, 54);
        Check.due("two", x.cheats(), 2);
        Check.row("two", x, 6, 3);
        x.weighed(0, 44);
        Check.due("all", x.cheats(), 3);
        Check.row("all", x, 7, -9);
        x = Check.with("40;50");
        x.weighed(0, 41);
        x.weighed(1, 49);
        Check.due("of as few the least off", x.cheats(), 1);
        Check.row("of as few the least off", x, 1, -1);
        HeavierServes nine = Check.with("40;50");
        nine.weighed(0, 49);
        nine.weighed(1, 59);
        Check.due("the greatest off", nine.cheats(), 0);
        Check.row("the greatest off", nine, 0, 9);
        HeavierServes eight = Check.with("1;1;1;1;1;1;1;1");
        for (int p = 0; p < 8; p++) {
            eight.weighed(p, 900);
        }
        Check.due("all eight", eight.cheats(), 8);
        Check.row("all eight", eight, 255, -9);
        x.scale(0, 7);
        x.forget();
        x.forget();
        x.weighed(0, 42);
        Check.due("with a grain", x.cheats(), 0);
        Check.row("with a grain", x, 0, 2);
    }
}
