import java.util.ArrayList;
import java.util.List;
import java.util.NoSuchElementException;

/**
 * Two objects made alike, of which one is asked something that may change nothing, or nothing but THE TEXT or
 * the ROW: all that can be asked of the two has to be the same then.
 */
final class Alike {
    /** People that are never there, however many are: the last one would be shifted to person 0. */
    static final int[] NOBODIES = {Integer.MIN_VALUE, -32, -2, -1, 8, 9, 31, 32, Integer.MAX_VALUE};

    private Alike() {
    }

    /** Numbers that are not from the least to the greatest, those next to them first. */
    static int[] outside(int least, int greatest) {
        return new int[] {least - 1, greatest + 1, least - 32, greatest + 32, least - 256, greatest + 256, greatest + 65536,
            Integer.MIN_VALUE, Integer.MAX_VALUE};
    }

    interface Maker {
        HeavierServes make();
    }

    interface Call {
        long on(HeavierServes x);
    }

    /** A call that changes nothing at all. */
    static void refused(String what, Maker maker, long answer, Call call) {
        HeavierServes asked = maker.make();
        Check.due(what, call.on(asked), answer);
        same(what, asked, maker.make(), true);
    }

    /** A call that changes nothing but THE TEXT, which it empties. */
    static void refusedReading(String what, Maker maker, long answer, Call call) {
        HeavierServes asked = maker.make();
        Check.due(what, call.on(asked), answer);
        Check.due(what + ": signs of the text", asked.count(11), 0);
        HeavierServes left = maker.make();
        left.end(0);
        same(what, asked, left, true);
    }

    /** A call that throws, and changes nothing at all. */
    static void noSuch(String what, Maker maker, Call call) {
        HeavierServes asked = maker.make();
        Check.noSuch(what, () -> call.on(asked));
        same(what, asked, maker.make(), true);
    }

    /** A call that changes nothing but the ROW. */
    static void tells(String what, Maker maker, Call call) {
        HeavierServes asked = maker.make();
        call.on(asked);
        same(what, asked, maker.make(), false);
    }

    static long bit(boolean answer) {
        return answer ? 1 : 0;
    }

    private static void same(String what, HeavierServes asked, HeavierServes left, boolean withRow) {
        List<Long> one = new Look(asked, withRow).all();
        List<Long> other = new Look(left, withRow).all();
        int differs = one.size() == other.size() ? -1 : Math.min(one.size(), other.size());
        for (int k = one.size() - 1; k >= 0; k--) {
            if (k < other.size() && !one.get(k).equals(other.get(k))) {
                differs = k;
            }
        }
        Check.due(what + ": the first answer that is not as if it had not been asked", differs, -1);
    }

    /** Three people alive and one dead; laws fallen and holding; of everything some, of nothing as many as can be. */
    static HeavierServes some() {
        HeavierServes x = Check.with("60*1+3-2;50*2;55*1-1;40*3+9", "w>v-20");
        x.set(2, 1, 3);
        x.set(2, 2, 9);
        x.scale(0, 2);
        x.scale(1, 3);
        x.stand(2);
        x.law();
        x.law();
        x.stand(1);
        x.law();
        x.keep(0);
        x.feed(1, 5);
        x.dies(3);
        x.keep(1);
        x.weighed(0, 62);
        x.weighed(1, 52);
        x.weighed(0, 60);
        x.told(0, 2);
        x.told(2, 4);
        x.then(3);
        Check.type(x, "w=50");
        return x;
    }

    /** Eight people, 12 laws, 12 weighings, 10 dates told, 20 steps, 80 signs; all are alive, and person 2 serves. */
    static HeavierServes full() {
        HeavierServes x = Check.with("5;6;7;4;3;2;1;9");
        for (int k = 0; k < 12; k++) {
            x.weighed(k % 8, 4 + k % 3);
        }
        for (int k = 0; k < 10; k++) {
            x.told(k % 2 + 1, k + 1);
        }
        for (int k = 0; k < 9; k++) {
            x.fast(7, 1);
        }
        x.stand(4);
        for (int k = 0; k < 12; k++) {
            x.law();
        }
        x.then(2);
        Check.type(x, Check.times("w=50", 20));
        return x;
    }

    static HeavierServes fresh() {
        return new HeavierServes();
    }

    /** All that can be asked, last what changes the object; no more than the calls that an object has. */
    private static final class Look {
        private static final int CALLS_MOST = 400;

        private final HeavierServes x;
        private final boolean withRow;
        private final List<Long> seen = new ArrayList<>();

        Look(HeavierServes x, boolean withRow) {
            this.x = x;
            this.withRow = withRow;
        }

        private long ask(long answer) {
            seen.add(answer);
            return answer;
        }

        private void askRow() {
            long numbers = ask(x.count(10));
            for (int k = 0; k < numbers; k++) {
                ask(x.row(k));
            }
        }

        List<Long> all() {
            for (int what = 0; what < 14; what++) {
                if (what != 10) {
                    ask(x.count(what));
                }
            }
            if (withRow) {
                askRow();
            }
            people();
            laws();
            scale();
            dates();
            text();
            weighings();
            steps();
            kept();
            Check.yes("an object has its 512 calls", seen.size() <= CALLS_MOST);
            return seen;
        }

        private void people() {
            int n = x.count(0);
            for (int p = 0; p < n; p++) {
                long changes = 0;
                for (int what = 0; what < 8; what++) {
                    changes = ask(x.of(p, what));
                }
                for (int k = 0; k < changes; k++) {
                    ask(x.change(p, k));
                }
            }
        }

        private void laws() {
            long made = ask(x.count(4));
            for (int law = 0; law < made; law++) {
                for (int what = 0; what < 4; what += made > 6 ? 3 : 1) {
                    ask(x.laws(law, what));
                }
            }
            int week = x.count(1);
            for (int k = Math.max(0, week - 3); k <= week; k++) {
                ask(x.served(k));
            }
        }

        private void scale() {
            ask(x.grains());
            ask(x.offs());
            askRow();
            ask(x.cheats());
            askRow();
        }

        private void dates() {
            ask(x.absent());
            askRow();
            ask(x.explains(0));
            askRow();
            ask(x.wipe());
        }

        private void text() {
            ask(x.will());
            for (int p = 0; p < Math.min(2, x.count(0)); p++) {
                ask(x.of(p, 6));
            }
        }

        private void weighings() {
            for (int k = 0; k < 13; k++) {
                if (ask(x.span(k % 2)) > 0) {
                    askRow();
                }
                if (ask(x.forget()) < 1) {
                    break;
                }
            }
        }

        private void brief() {
            ask(x.count(1));
            ask(x.count(2));
            ask(x.count(5));
            ask(x.count(6));
            for (int p = 0; p < Math.min(2, x.count(0)); p++) {
                ask(x.of(p, 0));
            }
        }

        private void steps() {
            for (int k = 0; k < 21 && ask(x.undo()) >= 0; k++) {
                brief();
            }
        }

        private void kept() {
            for (int k = 0; k < 3; k++) {
                ask(bit(x.again(k)));
                brief();
            }
        }
    }
}
