/** Promises 45 to 47. */
public final class OddsTest {
    private OddsTest() {
    }

    public static void main(String[] args) {
        twin();
        odds();
        oddsInTwo();
        oddsOfAll();
        likely();
        Check.close();
    }

    private static void twin() {
        HeavierServes x = Check.with("40*2+1-2;50");
        x.set(2, 0, 6);
        x.stand(1);
        x.stand(0);
        x.stand(0);
        Check.due("none such", x.twin(2), -1);
        Check.due("none such", x.twin(-1), -1);
        Check.due("steps", x.count(7), 3);
        Check.due("twin", x.twin(0), 2);
        long[] due = {40, 2, 6, 1, 0, 40, 1, 2};
        for (int what = 0; what < 8; what++) {
            Check.due("of(2, " + what + ")", x.of(2, what), due[what]);
        }
        Check.due("-2", x.change(2, 1), -2);
        Check.due("no steps", x.count(7), 0);
        Check.due("who serves", x.count(2), 0);
        Check.habit(x, 2, "+9");
        Check.due("a habit of its own", x.of(0, 7), 2);
        x.dies(1);
        Check.due("not alive", x.twin(1), -1);
        for (int k = 3; k < 8; k++) {
            Check.due("twin", x.twin(2), k);
        }
        Check.due("eight", x.twin(0), -1);
        Check.due("people", x.count(0), 8);
        Check.due("alive", x.count(6), 253);
    }

    private static void odds() {
        HeavierServes x = Check.with("40;50;60");
        Check.due("now", x.odds(0, 0), 0);
        Check.row("now", x, 0, 1);
        x.set(2, 2, 4);
        x.set(2, 1, 5);
        x.set(2, 0, 1);
        x.odds(2, 1);
        Check.row("2", x, 3, 5);
        x.odds(1, 1);
        Check.row("1", x, 1, 5);
        x.odds(0, 1);
        Check.row("0", x, 9, 50);
        x.stand(2);
        x.odds(1, 0);
        Check.row("it serves", x, 1, 1);
        x.odds(1, 1);
        Check.row("it stays", x, 2, 5);
        x.odds(0, 1);
        Check.row("too light", x, 0, 1);
        Check.will(x, "i<2");
        x.odds(1, 1);
        Check.row("2 does not will", x, 1, 1);
        Check.due("n 3", x.odds(0, 3), -1);
        Check.due("n -1", x.odds(0, -1), -1);
        Check.due("none such", x.odds(3, 1), -1);
        Check.due("none such", x.odds(-1, 1), -1);
        Check.row("the row stays", x, 1, 1);
        x.dies(1);
        x.odds(1, 2);
        Check.row("not alive", x, 0, 1);
    }

    private static void oddsInTwo() {
        HeavierServes x = Check.with("40;50");
        x.set(2, 1, 3);
        x.set(2, 0, 5);
        x.odds(1, 2);
        Check.row("1", x, 91, 100);
        // 1 is ill twice, 0 well once.
        x.odds(0, 2);
        Check.row("0", x, 27, 400);
        x = Check.with("40+9;45", "s<1");
        x.set(2, 1, 5);
        x.odds(0, 2);
        // Nobody wills any more when one serves: 0 comes in the first week if 1 is ill.
        Check.row("by will", x, 1, 2);
        x.stand(2);
        x.odds(1, 2);
        Check.row("it stays", x, 1, 1);
        x = Check.with("50;60", "t=1");
        x.set(2, 1, 5);
        x.stand(1);
        x.law();
        x.odds(1, 2);
        Check.row("who stays keeps the laws", x, 3, 4);
        Check.will(x, "s=2");
        x.odds(1, 1);
        Check.row("not yet", x, 0, 1);
        x.odds(1, 2);
        Check.row("for two weeks then", x, 1, 2);
        x = Check.with("50;60;70", "(i=1)+(o>0)*(s=1)*(t=0)");
        x.set(2, 1, 5);
        x.stand(1);
        x.law();
        x.odds(0, 2);
        Check.row("0 is too light", x, 1, 4);
        x.odds(2, 2);
        Check.row("2 never served", x, 0, 1);
    }

    private static void oddsOfAll() {
        HeavierServes x = Check.with("1;2;3;4;5;6;7;8");
        for (int p = 0; p < 8; p++) {
            x.set(2, p, 9);
        }
        x.odds(0, 1);
        Check.row("eight nines", x, 4782969, 100000000);
        x.odds(7, 1);
        Check.row("the heaviest", x, 1, 10);
        x.odds(0, 2);
        // In the first week, then nobody heavier is well: 9^7/10^8 * (9/10)^7; or nobody at first, 9^8/10^8, then it alone.
        long nines = 4782969L;
        HeavierServes ones = Check.with("1;2;3;4;5;6;7;8");
        for (int p = 0; p < 8; p++) {
            ones.set(2, p, 1);
        }
        ones.odds(7, 2);
        Check.row("ill twice", ones, 99, 100);
        Check.row("in two", x, nines * nines * 10 + 9 * nines * nines, 10000000000000000L);
    }

    private static void likely() {
        HeavierServes x = Check.with("40;50;60");
        Check.due("the heaviest", x.likely(), 2);
        Check.row("the heaviest", x, 1, 1);
        x.set(2, 2, 5);
        Check.due("of equal ones the first", x.likely(), 1);
        Check.row("of equal ones the first", x, 1, 2);
        x.set(2, 1, 5);
        Check.due("2", x.likely(), 2);
        x.set(2, 2, 9);
        x.set(2, 1, 9);
        x.set(2, 0, 9);
        Check.due("nobody", x.likely(), -1);
        Check.row("nobody", x, 729, 1000);
        x.dies(1);
        x.dies(0);
        x.set(2, 2, 5);
        Check.due("nobody is the first of all", x.likely(), -1);
        Check.row("nobody is the first of all", x, 1, 2);
        x.stand(4);
        Check.due("who serves", x.likely(), 2);
        Check.row("who serves", x, 1, 1);
    }
}
