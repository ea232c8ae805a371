/** Promises 22 to 30. */
public final class FutureTest {
    private FutureTest() {
    }

    public static void main(String[] args) {
        later();
        then();
        soonest();
        ever();
        most();
        mostByOthers();
        rests();
        restsOfManyRounds();
        party();
        byTurns();
        fool();
        nothingChanges();
        Check.close();
    }

    private static void later() {
        HeavierServes x = Check.with("10+1-2+4;3-9;40");
        long[] due = {10, 11, 9, 13, 14};
        for (int n = 0; n < due.length; n++) {
            Check.due("later(0, " + n + ")", x.later(0, n), due[n]);
        }
        Check.due("1 at least", x.later(1, 99), 1);
        Check.due("99 on", x.later(0, 99), 10 + 33 * 3);
        Check.due("no habit", x.later(2, 99), 40);
        x.stand(0);
        Check.due("from this week on", x.later(0, 1), 9);
        Check.due("n 100", x.later(0, 100), -1);
        Check.due("n -1", x.later(0, -1), -1);
        Check.due("none such", x.later(3, 1), -1);
        Check.due("none such", x.later(-1, 1), -1);
        x.dies(2);
        Check.due("not alive", x.later(2, 1), -1);
        HeavierServes y = Check.with("998+9-9");
        Check.due("put to 999 on the way", y.later(0, 2), 990);
    }

    private static void then() {
        HeavierServes x = Check.with("40;45+2;50", "n>1");
        Check.due("now", x.then(0), -1);
        Check.row("now", x, 0, 0, 0);
        Check.due("nobody yet", x.then(2), -1);
        Check.due("the heaviest", x.then(3), 2);
        Check.row("the heaviest", x, 0, 0, 1);
        // 51 in week 3.
        Check.due("outweighed", x.then(5), 1);
        Check.row("outweighed", x, 0, 2, 1);
        Check.due("99 on", x.then(99), 1);
        Check.row("99 on", x, 0, 96, 1);
        Check.due("n 100", x.then(100), -2);
        Check.due("n -1", x.then(-1), -2);
        Check.row("the row stays", x, 0, 96, 1);
        Check.row("nobody there", nobody(), new long[0]);
    }

    private static HeavierServes nobody() {
        HeavierServes x = new HeavierServes();
        x.then(5);
        return x;
    }

    private static void soonest() {
        HeavierServes x = Check.with("40;45+2;50;60;1+1", "(n>1)*(3>i)+(i=4)*(n>98)");
        Check.due("in the third", x.soonest(2), 3);
        Check.due("in the fourth", x.soonest(1), 4);
        Check.due("never", x.soonest(0), -2);
        Check.due("none such", x.soonest(5), -1);
        Check.due("none such", x.soonest(-1), -1);
        x.stand(8);
        Check.due("it serves now", x.soonest(3), -3);
        x.dies(2);
        Check.due("not alive", x.soonest(2), -2);
        HeavierServes y = Check.with("5", "n=98");
        Check.due("in the 99th", y.soonest(0), 99);
        y = Check.with("5", "n=99");
        Check.due("in the 100th", y.soonest(0), -2);
    }

    private static void ever() {
        HeavierServes x = Check.with("40;50+9;60;70", "0");
        Check.due("nobody serves", x.ever(1), 15);
        Check.row("nobody serves", x, 15);
        Check.due("no week", x.ever(0), 0);
        Check.row("no week", x, 0);
        x.stand(2);
        Check.due("who serves and who is heavier", x.ever(1), 2 + 4 + 8);
        x.stand(4);
        // 68, 60, 70: person 1 is heavier than 2, and 3 than 1.
        Check.due("one more", x.ever(1), 2 + 4 + 8);
        x.stand(8);
        // 77, 70.
        Check.due("next", x.ever(1), 2 + 8);
        Check.row("next", x, 2 + 8);
        x.dies(1);
        Check.due("not alive", x.ever(12), 8);
        Check.due("n 13", x.ever(13), -1);
        Check.due("n -1", x.ever(-1), -1);
        HeavierServes y = Check.with("40;35+9-9");
        y.stand(1);
        Check.due("a chance in the next week", y.ever(1), 3);
        y = Check.with("40;30+9");
        y.stand(1);
        Check.due("not yet", y.ever(1), 1);
        Check.due("then", y.ever(2), 3);
        Check.row("then", y, 3);
    }

    private static void most() {
        HeavierServes x = Check.with("40;50", "n<0");
        Check.due("no week", x.most(0, 0), 0);
        Check.row("no week", x, 0);
        Check.due("ten", x.most(0, 10), 10);
        Check.row("it stands once", x, 1);
        Check.due("none such", x.most(2, 1), -1);
        Check.due("none such", x.most(-1, 1), -1);
        Check.due("n 11", x.most(0, 11), -1);
        Check.due("n -1", x.most(0, -1), -1);
        Check.row("the row stays", x, 1);
        x.stand(2);
        Check.due("too light", x.most(0, 10), 0);
        Check.row("it does not stand", x, 0);
        Check.due("it serves", x.most(1, 10), 10);
        Check.row("it does not stand", x, 0);
        x.dies(0);
        Check.due("not alive", x.most(0, 1), -1);
    }

    private static void mostByOthers() {
        // The other, heavier one stands when somebody has served for 2 weeks.
        HeavierServes x = Check.with("45;50", "s=2");
        // Standing first, 0 serves two weeks, then 1 comes and stays; standing in the second is as good.
        Check.due("two of two", x.most(0, 2), 2);
        Check.row("the first", x, 1);
        Check.due("two of three", x.most(0, 3), 2);
        Check.row("the least number", x, 1);
        // 0 is the heavier one in even weeks alone: 50 and 41 by turns.
        x = Check.with("50-9+9;45", "s>0");
        // Standing in weeks 0, 2, 4 gives three; but so does standing in week 1, when nobody serves, and in week 4.
        Check.due("by turns", x.most(0, 5), 3);
        Check.row("by turns", x, 2 + 16);
        // 0 has 47 44 41 41 49 46 43 43, 1 has 45 41 44 46 42 45 47 43 and wills till it has served for 3.
        x = Check.with("47-3-3-0+8;45-4+3+2", "o<3");
        // Weeks 1, 4 to 7; weeks 0, 1, 5 to 7 by standing in 0 and 5 would be as many.
        Check.due("of as few the least number", x.most(0, 8), 5);
        Check.row("of as few the least number", x, 2 + 16);
        // 0 has 48 48 45 45 42 42, 2 has 42 51 44 43 46 55: standing in 0 and 2 gives weeks 0, 2, 3.
        x = Check.with("48-0-3;40-3;42+9-7-1+3", "o<3");
        Check.due("the fewest first", x.most(0, 6), 3);
        Check.row("the fewest first", x, 8);
    }

    private static void rests() {
        HeavierServes x = Check.with("40;50;60");
        Check.due("one round", x.rests(2, 20), 1);
        Check.row("all stand", x, 1, 3, 3, 3);
        Check.due("m 0", x.rests(4, 0), 0);
        Check.row("m 0", x, 0, 15, 15, 15);
        Check.due("n 0", x.rests(0, 1), -1);
        Check.due("n 5", x.rests(5, 1), -1);
        Check.due("m 21", x.rests(1, 21), -1);
        Check.due("m -1", x.rests(1, -1), -1);
        Check.row("the row stays", x, 0, 15, 15, 15);
        x.dies(2);
        Check.due("one is not alive", x.rests(1, 1), 1);
        Check.row("one is not alive", x, 1, 1, 1, 1);
        HeavierServes willNone = Check.with("40;50", "0");
        Check.due("will does not matter", willNone.rests(1, 5), 1);
    }

    private static void restsOfManyRounds() {
        // Shown in nines: 0 has 54 45 54 54, 1 has 45 54 54 54, 2 has 54 54 45 45, 3 has 45 54 54 54.
        HeavierServes x = Check.with("54-9+9+0+9;45+9+0+0-9;54+0-9+0+9;45+9+0+0+0");
        x.scale(0, 9);
        // All standing, 0 serves in the first week alone; leaving that one to 2, it serves in the last two.
        Check.due("a better plan", x.rests(4, 20), 2);
        Check.row("a better plan", x, 1, 4, 15, 15, 15);
        Check.due("no time to rest", x.rests(4, 1), 1);
        Check.row("no time to rest", x, 0, 4, 15, 15, 15);
        Check.due("two weeks", x.rests(2, 20), 1);
        Check.row("two weeks", x, 1, 3, 3, 3, 3);
        x = Check.with("54-9+9+9+0;45+9+0+9+0;45+0+0+9-9;54+0-9-9+0;45+9-9+0-9");
        x.scale(0, 9);
        Check.due("another one", x.rests(4, 3), 2);
        Check.row("another one", x, 1, 4, 15, 15, 15, 15);
        x.dies(0);
        Check.due("not alive", x.rests(4, 3), 1);
        Check.row("not alive", x, 1, 15, 15, 15, 15, 15);
    }

    private static void party() {
        HeavierServes x = Check.with("40*1;45*2+2;50*1", "n>1");
        Check.due("nobody serves", x.party(2), -1);
        Check.row("nobody serves", x, 0, 0, 0, 0, 0);
        Check.due("no week", x.party(0), -1);
        Check.row("no week", x, 0, 0, 0, 0, 0);
        Check.due("1", x.party(3), 1);
        Check.row("1", x, 0, 1, 0, 0, 4);
        Check.due("of equal ones the first", x.party(4), 1);
        Check.row("of equal ones the first", x, 0, 1, 1, 0, 6);
        Check.due("2", x.party(5), 2);
        Check.row("2", x, 0, 1, 2, 0, 6);
        Check.due("99 weeks", x.party(99), 2);
        Check.row("99 weeks", x, 0, 1, 96, 0, 6);
        Check.due("n 100", x.party(100), -2);
        Check.due("n -1", x.party(-1), -2);
        Check.row("the row stays", x, 0, 1, 96, 0, 6);
    }

    private static void byTurns() {
        HeavierServes x = Check.with("40*1;60*2;50*1;70*1", "i=1");
        // By will 1 comes at once and stays; by turns 0, 2, 3 stand: 3 outweighs it in the third week.
        Check.due("two weeks", x.byTurns(1, 2), 0);
        Check.row("two weeks", x, 0);
        Check.due("four weeks", x.byTurns(1, 4), 2);
        Check.row("four weeks", x, 2);
        Check.due("the other party", x.byTurns(2, 4), 4);
        Check.row("the other party", x, 0);
        Check.due("99 weeks", x.byTurns(1, 99), 97);
        Check.row("99 weeks", x, 97);
        Check.due("a party of none", x.byTurns(3, 4), 0);
        Check.row("a party of none", x, 0);
        Check.due("no week", x.byTurns(1, 0), 0);
        x.dies(0);
        Check.due("one sooner", x.byTurns(1, 4), 3);
        Check.due("party 4", x.byTurns(4, 1), -1);
        Check.due("party -1", x.byTurns(-1, 1), -1);
        Check.due("n 100", x.byTurns(1, 100), -1);
        Check.due("n -1", x.byTurns(1, -1), -1);
        // 1 stands by will from the first week on, by turns in the second alone: 60 serves first.
        x = Check.with("10*0;70*0;60*1");
        Check.due("less than by will", x.byTurns(0, 3), 2);
        Check.row("less than by will", x, -1);
        // Only one: in its turn it serves, so none stands.
        x = Check.with("10*0-9+9;15*1", "n>0");
        Check.due("one alone", x.byTurns(0, 4), 1);
        Check.row("one alone", x, 1);
    }

    private static void fool() {
        HeavierServes x = Check.with("90*1;60*1;70*2");
        Check.due("worth", x.fool(0, 5), 5);
        Check.row("worth", x, 5, 0);
        Check.due("99 weeks", x.fool(0, 99), 99);
        Check.due("worth nothing", x.fool(1, 5), 0);
        Check.row("worth nothing", x, 5, 5);
        Check.due("the other's", x.fool(2, 5), 0);
        Check.row("the other's", x, 0, 0);
        x.stand(1);
        Check.due("who serves need not stand", x.fool(0, 3), 0);
        Check.row("who serves", x, 3, 3);
        x.dies(0);
        Check.due("not alive", x.fool(0, 3), 0);
        Check.row("not alive", x, 0, 0);
        Check.noSuch("none such", () -> x.fool(3, 1));
        Check.noSuch("none such", () -> x.fool(-1, 1));
        Check.noSuch("n 100", () -> x.fool(0, 100));
        Check.noSuch("n -1", () -> x.fool(0, -1));
        // 2 stands against none but a heavy one: without the fool the party has more.
        HeavierServes y = Check.with("90*1-9;60*1;85*2", "(i=0)+(i=1)*(n=0)+(i=2)*(v>80)");
        Check.due("a harm", y.fool(0, 4), -3);
        Check.row("a harm", y, 1, 4);
        Check.due("0 weeks", y.fool(0, 0), 0);
        Check.row("0 weeks", y, 0, 0);
    }

    private static void nothingChanges() {
        HeavierServes x = Check.with("40*1+3-1;60*2;50*1-2", "w<n*30");
        x.stand(1);
        x.law();
        x.later(0, 9);
        x.then(9);
        x.soonest(2);
        x.ever(9);
        x.most(2, 9);
        x.rests(4, 9);
        x.party(9);
        x.byTurns(1, 9);
        x.fool(0, 9);
        long[] due = {3, 1, 0, 1, 1, 1, 7, 2};
        for (int what = 0; what < due.length; what++) {
            Check.due("count(" + what + ")", x.count(what), due[what]);
        }
        Check.due("weight", x.of(0, 0), 43);
        Check.due("served", x.of(0, 4), 1);
        Check.due("holds", x.laws(0, 3), -1);
        Check.due("not yet", x.served(1), -2);
    }
}
