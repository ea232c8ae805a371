/** The boundary cases of promises 35 to 40, each by a test of its own. */
public final class ScaleEdgesTest {
    private ScaleEdgesTest() {
    }

    public static void main(String[] args) {
        weighedBounds();
        weighedTwelve();
        weighedRefused();
        weighedOfOneNotAlive();
        forgetLatest();
        forgetNone();
        grainsWithoutWeighings();
        grainsOneAndNine();
        grainsOfOneWeightEach();
        grainsByOff();
        grainsWeightBounds();
        spanWithoutWeighings();
        spanBounds();
        spanNone();
        spanRefused();
        offsWithoutWeighings();
        offsBounds();
        offsNone();
        cheatsNone();
        cheatsAll();
        cheatsLeastOff();
        cheatsOffBounds();
        Check.close();
    }

    /** "THE SCALE showed v (0 .. 1010) of one of PEOPLE: how many weighings there are." */
    private static void weighedBounds() {
        HeavierServes x = Check.with("1;2;3;4;5;6;7;8");
        Check.due("0", x.weighed(0, 0), 1);
        Check.due("1010", x.weighed(7, 1010), 2);
        Check.due("weighings", x.count(8), 2);
        x.scale(1, -9);
        Check.due("0 was taken", x.span(0), 9);
        Check.row("0 was taken", x, 1, 9);
        Check.due("1010 was taken", x.span(7), 0);
    }

    /** "Refused: .. 12." */
    private static void weighedTwelve() {
        HeavierServes x = Check.with("40;50");
        for (int k = 1; k <= 12; k++) {
            Check.due("weighing " + k, x.weighed(k % 2, k), k);
        }
        Check.due("weighings", x.count(8), 12);
        Alike.refused("a thirteenth", Alike::full, -1, y -> y.weighed(0, 5));
        Check.due("forget", x.forget(), 11);
        Check.due("a twelfth", x.weighed(0, 5), 12);
    }

    /** "Refused: others" */
    private static void weighedRefused() {
        for (int v : Alike.outside(0, 1010)) {
            Alike.refused("weighed(0, " + v + ")", Alike::some, -1, x -> x.weighed(0, v));
        }
        for (int person : Alike.outside(0, 3)) {
            Alike.refused("weighed(" + person + ", 1)", Alike::some, -1, x -> x.weighed(person, 1));
        }
        for (int person : Alike.NOBODIES) {
            Alike.refused("weighed(" + person + ", 1)", () -> {
                HeavierServes x = Alike.full();
                x.forget();
                return x;
            }, -1, x -> x.weighed(person, 1));
        }
        Alike.refused("weighed of nobody", Alike::fresh, -1, x -> x.weighed(0, 1));
    }

    private static void weighedOfOneNotAlive() {
        HeavierServes x = Alike.some();
        Check.due("one not alive", x.weighed(3, 60), 4);
        Check.due("its span", x.span(3), 2);
        Check.row("its span", x, 57, 58);
    }

    /** "The latest weighing is forgotten: how many are left." */
    private static void forgetLatest() {
        HeavierServes x = Check.with("40;50");
        x.weighed(0, 41);
        x.weighed(0, 42);
        Check.due("both can't be", x.span(0), 0);
        Check.due("one is left", x.forget(), 1);
        x.span(0);
        Check.row("the first is left", x, 41, 41);
        Check.due("none is left", x.forget(), 0);
        x.span(0);
        Check.row("none is left", x, 1, 999);
        HeavierServes full = Alike.full();
        for (int k = 11; k >= 0; k--) {
            Check.due("left", full.forget(), k);
            Check.due("weighings", full.count(8), k);
        }
    }

    /** "Refused: none." */
    private static void forgetNone() {
        Alike.refused("forget of nobody", Alike::fresh, -1, HeavierServes::forget);
        Alike.refused("forget of none", () -> {
            HeavierServes x = Check.with("40");
            x.weighed(0, 9);
            x.forget();
            return x;
        }, -1, HeavierServes::forget);
    }

    private static void grainsWithoutWeighings() {
        Check.due("nobody", new HeavierServes().grains(), 1022);
        HeavierServes x = Check.with("40;50");
        x.scale(1, -9);
        x.scale(0, 9);
        Check.due("none", x.grains(), 1022);
        Alike.refused("grains change nothing", Alike::some, 0, HeavierServes::grains);
    }

    /** "GRAINS (bits 1 .. 9)" */
    private static void grainsOneAndNine() {
        HeavierServes x = Check.with("40");
        x.weighed(0, 9 * 11);
        Check.due("1, 3, 9", x.grains(), 2 + 8 + 512);
        x.forget();
        x.weighed(0, 101);
        Check.due("1 alone", x.grains(), 2);
        x.forget();
        x.weighed(0, 360);
        Check.due("all but 7", x.grains(), 1022 - 128);
        x.forget();
        x.weighed(0, 840);
        Check.due("all but 9", x.grains(), 1022 - 512);
    }

    /** "(of one of PEOPLE of some one WEIGHT each)" */
    private static void grainsOfOneWeightEach() {
        HeavierServes x = Check.with("40;50");
        x.weighed(0, 12);
        x.weighed(1, 18);
        Check.due("one each", x.grains(), 2 + 4 + 8 + 64);
        x.weighed(0, 12);
        Check.due("the same again", x.grains(), 2 + 4 + 8 + 64);
        x.weighed(1, 12);
        Check.due("two of one", x.grains(), 0);
        x.forget();
        Check.due("forgotten", x.grains(), 2 + 4 + 8 + 64);
    }

    /** "OFF as it is" */
    private static void grainsByOff() {
        HeavierServes x = Check.with("40");
        x.weighed(0, 0);
        int[] due = {1022, 1022 - 2, 1022 - 2 - 4, 1022 - 2 - 4 - 8};
        for (int off = 0; off < 3; off++) {
            x.scale(1, off);
            Check.due("0 with off " + off, x.grains(), due[off + 1]);
        }
        x.scale(1, 7);
        Check.due("0 with off 7: 8 shows 0 with grain 9 alone", x.grains(), 512);
        x.scale(1, 8);
        Check.due("0 with off 8", x.grains(), 0);
        x.scale(1, -1);
        Check.due("0 with off -1", x.grains(), due[0]);
        x.scale(1, -9);
        Check.due("0 with off -9", x.grains(), due[0]);
    }

    private static void grainsWeightBounds() {
        HeavierServes x = Check.with("40");
        x.weighed(0, 999);
        Check.due("999", x.grains(), 2 + 8 + 512);
        x.forget();
        x.weighed(0, 1000);
        Check.due("1000", x.grains(), 0);
        x.scale(1, 1);
        Check.due("1000 with off 1", x.grains(), 2 + 4 + 16 + 32 + 256);
        x.forget();
        x.weighed(0, 1008);
        x.scale(1, 9);
        Check.due("1008 with off 9", x.grains(), 1022 - 32);
        x.forget();
        x.weighed(0, 1010);
        Check.due("1010 with off 9", x.grains(), 0);
    }

    private static void spanWithoutWeighings() {
        HeavierServes x = Check.with("40;50");
        x.weighed(1, 5);
        Check.due("not weighed", x.span(0), 999);
        Check.row("not weighed", x, 1, 999);
        x.scale(1, -9);
        x.scale(0, 9);
        Check.due("not weighed", x.span(0), 999);
        Alike.tells("span", Alike::some, y -> y.span(0));
        Alike.tells("span", Alike::full, y -> y.span(7));
    }

    private static void spanOf(int v, int grain, int off, int least, int greatest) {
        HeavierServes x = Check.with("40");
        x.scale(0, grain);
        x.scale(1, off);
        x.weighed(0, v);
        String what = "span of " + v + " with grain " + grain + " and off " + off;
        Check.due(what, x.span(0), greatest - least + 1);
        Check.row(what, x, least, greatest);
    }

    /** "how many; the ROW: the least, the greatest" */
    private static void spanBounds() {
        spanOf(1, 1, 0, 1, 1);
        spanOf(999, 1, 0, 999, 999);
        spanOf(0, 9, 0, 1, 8);
        spanOf(0, 2, 0, 1, 1);
        spanOf(0, 1, -9, 1, 9);
        spanOf(0, 9, -9, 1, 17);
        spanOf(9, 9, -9, 18, 26);
        spanOf(0, 9, 7, 1, 1);
        spanOf(1, 1, -9, 10, 10);
        spanOf(990, 1, -9, 999, 999);
        spanOf(1008, 9, 9, 999, 999);
        spanOf(999, 9, 9, 990, 998);
        spanOf(990, 9, 0, 990, 998);
        spanOf(999, 9, 0, 999, 999);
        spanOf(995, 5, 0, 995, 999);
    }

    private static void noSpan(int v, int grain, int off) {
        HeavierServes x = Check.with("40");
        x.then(1);
        x.scale(0, grain);
        x.scale(1, off);
        x.weighed(0, v);
        Check.due("span of " + v + " with grain " + grain + " and off " + off, x.span(0), 0);
        Check.row("no row without", x);
    }

    /** "(none without)" */
    private static void spanNone() {
        noSpan(0, 1, 0);
        noSpan(1000, 1, 0);
        noSpan(1, 1, 1);
        noSpan(991, 1, -9);
        noSpan(1009, 1, 9);
        noSpan(1010, 1, 9);
        noSpan(8, 9, 0);
        noSpan(10, 9, 0);
        noSpan(0, 9, 8);
        HeavierServes x = Check.with("40");
        x.weighed(0, 40);
        x.weighed(0, 41);
        Check.due("two that can't be", x.span(0), 0);
        Check.row("two that can't be", x);
    }

    /** "NONE: none such." */
    private static void spanRefused() {
        for (int person : Alike.outside(0, 3)) {
            Alike.refused("span(" + person + ")", Alike::some, -1, x -> x.span(person));
        }
        for (int person : Alike.NOBODIES) {
            Alike.refused("span(" + person + ") of eight", Alike::full, -1, x -> x.span(person));
        }
        Alike.refused("span of nobody", Alike::fresh, -1, x -> x.span(0));
    }

    private static void offsWithoutWeighings() {
        HeavierServes x = new HeavierServes();
        Check.due("nobody", x.offs(), 19);
        Check.row("nobody", x, -9, 9);
        Alike.tells("offs", Alike::some, HeavierServes::offs);
        Alike.tells("offs", Alike::full, HeavierServes::offs);
    }

    private static void offsOf(int weight, int v, int grain, int least, int greatest) {
        HeavierServes x = Check.with("40");
        x.set(0, 0, weight);
        x.scale(0, grain);
        x.scale(1, 4);
        x.weighed(0, v);
        String what = "offs of " + weight + " showing " + v + " with grain " + grain;
        Check.due(what, x.offs(), greatest - least + 1);
        Check.row(what, x, least, greatest);
        Check.due("off is as it was", x.count(13), 4);
    }

    /** "OFFS (how many of -9 .. 9) .. the ROW: the least, the greatest" */
    private static void offsBounds() {
        offsOf(40, 31, 1, -9, -9);
        offsOf(40, 49, 1, 9, 9);
        offsOf(40, 40, 1, 0, 0);
        offsOf(40, 27, 9, -9, -5);
        offsOf(40, 45, 9, 5, 9);
        offsOf(40, 36, 9, -4, 4);
        offsOf(1, 0, 1, -9, -1);
        offsOf(9, 0, 1, -9, -9);
        offsOf(1, 0, 9, -9, 7);
        offsOf(999, 1008, 1, 9, 9);
    }

    /** "(none without)" */
    private static void offsNone() {
        int[] shown = {30, 50, 0, 1010};
        for (int v : shown) {
            HeavierServes x = Check.with("40");
            x.then(1);
            x.weighed(0, v);
            Check.due("no off for " + v, x.offs(), 0);
            Check.row("no row without", x);
        }
        HeavierServes x = Check.with("40;50");
        x.weighed(0, 41);
        x.weighed(1, 52);
        Check.due("all weighings", x.offs(), 0);
        Check.row("all weighings", x);
    }

    private static void cheatsNone() {
        HeavierServes x = new HeavierServes();
        Check.due("nobody", x.cheats(), 0);
        Check.row("nobody, the least off", x, 0, -9);
        x = Check.with("40;50");
        x.weighed(0, 44);
        x.weighed(1, 54);
        x.weighed(0, 44);
        Check.due("none", x.cheats(), 0);
        Check.row("none", x, 0, 4);
        Alike.tells("cheats", Alike::some, HeavierServes::cheats);
        Alike.tells("cheats", Alike::full, HeavierServes::cheats);
    }

    private static void cheatsAll() {
        HeavierServes x = Check.with("1;1;1;1;1;1;1;1");
        for (int p = 0; p < 8; p++) {
            x.weighed(p, 999);
            Check.due("cheats", x.cheats(), p + 1);
            Check.row("cheats", x, (1 << p + 1) - 1, -9);
        }
        // One of them twice is one.
        x.weighed(0, 998);
        Check.due("cheats", x.cheats(), 8);
    }

    /** "of as few the least OFF" */
    private static void cheatsLeastOff() {
        HeavierServes x = Check.with("40;50;60");
        x.weighed(0, 43);
        x.weighed(1, 52);
        x.weighed(2, 61);
        Check.due("two", x.cheats(), 2);
        Check.row("with off 1", x, 3, 1);
        x.weighed(2, 64);
        Check.due("two", x.cheats(), 2);
        Check.row("with off 2", x, 5, 2);
        x = Check.with("40");
        x.scale(0, 9);
        x.weighed(0, 36);
        Check.due("none", x.cheats(), 0);
        Check.row("with off -4", x, 0, -4);
    }

    /** "with some OFF (-9 .. 9)" */
    private static void cheatsOffBounds() {
        int[] shown = {30, 31, 49, 50};
        int[] due = {1, 0, 0, 1};
        int[] off = {-9, -9, 9, -9};
        for (int k = 0; k < 4; k++) {
            HeavierServes x = Check.with("40");
            x.scale(1, 3);
            x.weighed(0, shown[k]);
            Check.due("cheats with " + shown[k], x.cheats(), due[k]);
            Check.row("cheats with " + shown[k], x, due[k], off[k]);
        }
    }
}
