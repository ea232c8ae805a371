/** The boundary cases that the document's Terms name, each by a test of its own. */
public final class TermsEdgesTest {
    private TermsEdgesTest() {
    }

    public static void main(String[] args) {
        peopleAtMostEight();
        illAtFirstNot();
        weightPutTo999();
        weightPutTo1();
        changesFrom9To9();
        willNoneIsOne();
        willBindsLeastComparing();
        willFromTheLeft();
        willDividedByZero();
        willCutToZero();
        willMinusAheadOfAThing();
        willNumberOfThreeDigits();
        willFourBrackets();
        willAsInts();
        willWhileNobodyServes();
        willSinceItCameLast();
        willLawsThatHold();
        willNotZero();
        scaleAtFirst();
        scaleShowsZeroBelow();
        scaleShowsTheMost();
        scaleLessWhatIsLeft();
        lawsAtMostTwelve();
        weekWhoDoesNotStand();
        weekOfEqualOnesTheFirst();
        weekMoreThanWhoServes();
        weekNobodyServes();
        weekLawsFall();
        weekHabitGoesRound();
        weekAtFirstZero();
        weekWeightsChangeLast();
        byWillAtTheBeginning();
        rowToldLast();
        fractionsInLowestTerms();
        refusedThatReadEmpty();
        Check.close();
    }

    /** "PEOPLE 0 .. (at most 8; written a .. h)" */
    private static void peopleAtMostEight() {
        HeavierServes x = Check.with("1;2;3;4;5;6;7;8");
        Check.due("people", x.count(0), 8);
        Check.due("a ninth", Check.town(x, "9"), -1);
        Check.due("a ninth", x.twin(0), -1);
        Check.due("a stands", Check.year(x, "a"), 1);
        Check.due("a", x.count(2), 0);
        Check.due("h stands", Check.year(x, "h"), 1);
        Check.due("h", x.count(2), 7);
        Check.due("no i", Check.year(x, "i"), -1);
        Check.due("no `", Check.year(x, "`"), -1);
    }

    /** "ILL 0 .. 9 (tenths; at first 0)" */
    private static void illAtFirstNot() {
        HeavierServes x = Check.with("1;2;3;4;5;6;7;8");
        for (int p = 0; p < 8; p++) {
            Check.due("ill of " + p, x.of(p, 2), 0);
        }
        x.odds(7, 1);
        Check.row("it stands for sure", x, 1, 1);
        x.set(2, 7, 9);
        x.odds(7, 1);
        Check.row("one of ten", x, 1, 10);
    }

    /** "put to 1 .. 999" */
    private static void weightPutTo999() {
        HeavierServes x = Check.with("998+1;999+1;991+9;990+9;999-1");
        x.stand(0);
        int[] due = {999, 999, 999, 999, 998};
        for (int p = 0; p < due.length; p++) {
            Check.due("weight of " + p, x.of(p, 0), due[p]);
        }
        x.stand(0);
        for (int p = 0; p < 4; p++) {
            Check.due("weight of " + p, x.of(p, 0), 999);
        }
    }

    private static void weightPutTo1() {
        HeavierServes x = Check.with("2-1;1-1;9-9;10-9;1+1");
        x.stand(0);
        int[] due = {1, 1, 1, 1, 2};
        for (int p = 0; p < due.length; p++) {
            Check.due("weight of " + p, x.of(p, 0), due[p]);
        }
        x.stand(0);
        for (int p = 0; p < 4; p++) {
            Check.due("weight of " + p, x.of(p, 0), 1);
        }
    }

    /** "0 to 6 CHANGES of -9 .. 9" */
    private static void changesFrom9To9() {
        HeavierServes x = Check.with("500+9-9+0-0+1-1;500");
        int[] due = {509, 500, 500, 500, 501, 500, 509};
        for (int k = 0; k < due.length; k++) {
            x.stand(0);
            Check.due("weight after week " + k, x.of(0, 0), due[k]);
            Check.due("without a habit", x.of(1, 0), 500);
        }
    }

    private static void will(HeavierServes x, String will, int person, int due) {
        Check.due("will " + will, Check.will(x, will), 0);
        Check.due(will + " of " + person, x.of(person, 6), due);
    }

    private static void will(String will, int due) {
        will(Check.with("40*2;50"), will, 0, due);
    }

    /** "THE WILL .. (at first none: 1)" */
    private static void willNoneIsOne() {
        HeavierServes x = Check.with("40;50");
        Check.due("at first", x.of(1, 6), 1);
        Check.due("all stand", x.weeks(1), 1);
        Check.due("who serves has a will, too", x.of(1, 6), 1);
    }

    /** "< > = bind least (two; 1 or 0 ..)" */
    private static void willBindsLeastComparing() {
        will("1+1<3", 1);
        will("3<1+1", 0);
        will("1<2+0", 1);
        will("2=1+1", 1);
        will("2*3>1+4", 1);
        will("5>5", 0);
        will("5<5", 0);
        will("5=5", 1);
        will("4>5", 0);
        will("5>4", 1);
        will("4<5", 1);
        will("5<4", 0);
        will("5=4", 0);
        will("-1<0", 1);
        will("(1<2)+(2<3)", 2);
        will("(1<2)=(2>1)", 1);
        will("((1<2)<3)<1", 0);
    }

    /** "+ - (from the left), then * / (from the left ..)" */
    private static void willFromTheLeft() {
        will("10-3-2", 5);
        will("10-3+2", 9);
        will("100/5/2", 10);
        will("7/2*2", 6);
        will("2*7/4", 3);
        will("2+3*4", 14);
        will("2*3+4", 10);
        will("20-6/3", 18);
    }

    /** "by 0: 0" */
    private static void willDividedByZero() {
        will("5/0", 0);
        will("0/0", 0);
        will("-5/0", 0);
        will("5/(1-1)", 0);
        will("5/p/0+3", 3);
        will("7/i", 0);
        will("7/v", 0);
    }

    /** "cut to 0" */
    private static void willCutToZero() {
        will("7/2", 3);
        will("-7/2", -3);
        will("7/-2", -3);
        will("-7/-2", 3);
        will("1/2", 0);
        will("-1/2", 0);
        will("0-7/2", -3);
    }

    /** "then - ahead of a thing (any many)" */
    private static void willMinusAheadOfAThing() {
        will("-1", -1);
        will("--1", 1);
        will("---1", -1);
        will("-w", -40);
        will("--w", 40);
        will("-(1+2)", -3);
        will("2--3", 5);
        will("2---3", -1);
        will("2*-3", -6);
        will("-2*-3", 6);
        will("8/--4", 2);
        will("1<-1", 0);
        will("-".repeat(38) + "7", 7);
        will("-".repeat(39) + "7", -7);
    }

    /** "a NUMBER of 1 to 3 digits" */
    private static void willNumberOfThreeDigits() {
        will("0", 0);
        will("9", 9);
        will("00", 0);
        will("99", 99);
        will("000", 0);
        will("007", 7);
        will("999", 999);
        HeavierServes x = Check.with("40");
        Check.due("a fourth digit", Check.will(x, "9999"), -4);
        Check.due("a fourth digit", Check.will(x, "0000"), -4);
    }

    /** "an EXPRESSION in ( ) (at most 4 in one another)" */
    private static void willFourBrackets() {
        will("(5)", 5);
        will("((((5))))", 5);
        will("((((5))))+((((6))))", 11);
        will("(1+(2+(3+(4))))", 10);
        will("-(-(-(-(3))))", 3);
        will("(((1)))+(2)*((3))", 7);
        HeavierServes x = Check.with("40");
        Check.due("a fifth", Check.will(x, "(((((5)))))"), -5);
        Check.due("a fifth", Check.will(x, "((((1))))+((((("), -15);
    }

    /** "As ints." */
    private static void willAsInts() {
        will("999*999*999*999", 999 * 999 * 999 * 999);
        // 2 to the 30th, then 2 and 4 of it.
        will("64*64*64*64*64*2", Integer.MIN_VALUE);
        will("64*64*64*64*64*2-1", Integer.MAX_VALUE);
        will("-(64*64*64*64*64*2)", Integer.MIN_VALUE);
        will("64*64*64*64*64*2/-1", Integer.MIN_VALUE);
        will("64*64*64*64*64*2<0", 1);
        will("64*64*64*64*64*4", 0);
    }

    /** "v .. (0: nobody does), q .. (-1: nobody), s .. (0: nobody)" */
    private static void willWhileNobodyServes() {
        HeavierServes x = Check.with("40*2;50*3");
        for (int p = 0; p < 2; p++) {
            will(x, "v", p, 0);
            will(x, "q", p, -1);
            will(x, "s", p, 0);
            will(x, "t", p, 0);
            will(x, "n", p, 0);
            will(x, "o", p, 0);
            will(x, "i", p, p);
        }
        x.stand(2);
        for (int p = 0; p < 2; p++) {
            will(x, "v", p, 50);
            will(x, "q", p, 3);
            will(x, "s", p, 1);
            will(x, "n", p, 1);
            will(x, "o", p, p);
        }
        x.dies(1);
        for (int p = 0; p < 2; p++) {
            will(x, "v", p, 0);
            will(x, "q", p, -1);
            will(x, "s", p, 0);
            will(x, "o", p, p);
        }
        HeavierServes zero = Check.with("40*0");
        zero.stand(1);
        will(zero, "q", 0, 0);
    }

    /** "s WEEKS for which that one serves (since it came to serve last ..), o WEEKS .. in all" */
    private static void willSinceItCameLast() {
        HeavierServes x = Check.with("40+9-9-9+9;44");
        Check.year(x, "a;;b;a");
        // 40, 49, 40, 31: b comes in week 2; a has 31 then.
        Check.due("b serves", x.count(2), 1);
        x.set(0, 0, 90);
        Check.year(x, "a;");
        will(x, "s", 1, 2);
        will(x, "o", 0, 4);
        will(x, "o", 1, 2);
        Check.due("count(3)", x.count(3), 2);
    }

    /** "t how many LAWS hold" */
    private static void willLawsThatHold() {
        HeavierServes x = Check.with("40;50");
        x.stand(1);
        for (int k = 0; k <= 12; k++) {
            will(x, "t", 0, Math.min(k, 12));
            x.law();
        }
        x.stand(2);
        will(x, "t", 0, 0);
    }

    /** "One WILLS, if it is not 0." */
    private static void willNotZero() {
        HeavierServes x = Check.with("40;50;60", "i-1");
        Check.due("-1 and 1 will", x.then(1), 2);
        x.dies(2);
        Check.due("-1 wills, 0 does not", x.then(1), 0);
        Check.will(x, "0");
        Check.due("nobody wills", x.then(1), -1);
        Check.will(x, "64*64*64*64*64*4");
        Check.due("0 by wrap-around", x.then(1), -1);
        Check.will(x, "64*64*64*64*64*2");
        Check.due("below 0 by wrap-around", x.then(1), 1);
    }

    /** "GRAIN 1 .. 9 (at first 1), OFF -9 .. 9 (at first 0)" */
    private static void scaleAtFirst() {
        HeavierServes x = Check.with("1;999");
        Check.due("grain", x.count(12), 1);
        Check.due("off", x.count(13), 0);
        Check.due("shows 1", x.of(0, 5), 1);
        Check.due("shows 999", x.of(1, 5), 999);
    }

    private static void shows(int weight, int grain, int off, int due) {
        HeavierServes x = Check.with("5");
        x.set(0, 0, weight);
        x.scale(0, grain);
        x.scale(1, off);
        Check.due(weight + " with grain " + grain + " and off " + off, x.of(0, 5), due);
    }

    /** "that and OFF (0, if that is below 0)" */
    private static void scaleShowsZeroBelow() {
        shows(1, 1, -9, 0);
        shows(8, 1, -9, 0);
        shows(9, 1, -9, 0);
        shows(10, 1, -9, 1);
        shows(1, 1, -1, 0);
        shows(1, 1, -2, 0);
        shows(1, 7, -9, 0);
        shows(2, 9, -9, 0);
    }

    private static void scaleShowsTheMost() {
        shows(999, 1, 9, 1008);
        shows(999, 9, 9, 1008);
        shows(999, 5, 9, 1005);
        shows(998, 9, 9, 999);
        shows(999, 1, -9, 990);
    }

    /** "less what is left of it when it is divided by GRAIN" */
    private static void scaleLessWhatIsLeft() {
        shows(44, 5, 0, 40);
        shows(45, 5, 0, 45);
        shows(44, 5, 1, 45);
        shows(45, 5, -1, 40);
        shows(8, 9, 0, 0);
        shows(9, 9, 0, 9);
        shows(17, 9, 0, 9);
        shows(1, 2, 0, 0);
    }

    /** "LAWS 0 .. (at most 12)" */
    private static void lawsAtMostTwelve() {
        HeavierServes x = Check.with("40;50");
        x.stand(1);
        for (int k = 0; k < 12; k++) {
            Check.due("law", x.law(), k);
        }
        Check.due("a thirteenth", x.law(), -3);
        x.stand(2);
        Check.due("fallen ones are there, too", x.law(), -3);
        Check.due("laws", x.count(4), 12);
        Check.due("none holds", x.count(5), 0);
    }

    /** "who STANDS (those who are not ALIVE, and who serves, do not)" */
    private static void weekWhoDoesNotStand() {
        HeavierServes x = Check.with("40;50;60");
        x.dies(2);
        Check.due("not alive", x.stand(4), -1);
        Check.row("not alive", x, 0, 0);
        Check.due("the other one", x.stand(5), 0);
        x.law();
        Check.due("who serves", x.stand(1), 0);
        Check.row("who serves", x, 0, 0);
        Check.due("the law holds", x.count(5), 1);
        Check.due("since", x.count(3), 2);
        Check.due("who serves and one not alive", x.stand(5), 0);
        Check.due("not alive by will", x.then(9), 1);
    }

    /** "of whom THE SCALE SHOWS the most (of equal ones the first)" */
    private static void weekOfEqualOnesTheFirst() {
        HeavierServes x = Check.with("40;50;50;50");
        Check.due("the first of three", x.stand(15), 1);
        x = Check.with("40;50;50;50");
        Check.due("the first of two", x.stand(12), 2);
        x = Check.with("45;49;50;54;44");
        x.scale(0, 5);
        Check.due("of equal ones by the scale", x.stand(31), 2);
        x = Check.with("45;49;44");
        x.scale(0, 5);
        Check.due("of equal ones by the scale", x.stand(7), 0);
        x = Check.with("45;46;44");
        x.scale(0, 5);
        x.scale(1, -1);
        Check.due("by the scale that is off", x.stand(7), 1);
    }

    /** "if that is more than it SHOWS of who serves" */
    private static void weekMoreThanWhoServes() {
        HeavierServes x = Check.with("50;49;50;51");
        x.stand(1);
        Check.due("less", x.stand(2), 0);
        Check.due("as much", x.stand(4), 0);
        Check.due("more", x.stand(8), 3);
        x = Check.with("50;54;55");
        x.scale(0, 5);
        x.stand(1);
        Check.due("as much by the scale", x.stand(2), 0);
        Check.due("more by the scale", x.stand(4), 2);
        x = Check.with("1;9;10");
        x.scale(1, -9);
        x.stand(1);
        Check.due("0 is not more than 0", x.stand(2), 0);
        Check.due("1 is more than 0", x.stand(4), 2);
    }

    /** "or nobody does" */
    private static void weekNobodyServes() {
        HeavierServes x = Check.with("1;2");
        x.scale(1, -9);
        Check.due("nobody stands", x.stand(0), -1);
        Check.row("nobody stands", x, 0, 0);
        Check.due("one that shows 0", x.stand(2), 1);
        Check.row("one that shows 0", x, 1, 0);
        HeavierServes none = new HeavierServes();
        Check.due("nobody is there", none.stand(0), -1);
        Check.due("a week went by", none.count(1), 1);
    }

    /** "LAWS that hold made by who served before are fallen then" */
    private static void weekLawsFall() {
        HeavierServes x = Check.with("40;50;60");
        x.stand(1);
        x.law();
        x.law();
        x.stand(0);
        Check.due("hold", x.count(5), 3);
        x.stand(2);
        Check.row("two fell", x, 1, 2);
        Check.due("fell in week 2", x.laws(0, 3), 2);
        x.law();
        x.stand(4);
        Check.row("one fell", x, 1, 1);
        Check.due("fell in week 3", x.laws(2, 3), 3);
        Check.due("the first fell in week 2", x.laws(0, 3), 2);
    }

    /** "that number WEEK % how many CHANGES of its HABIT" */
    private static void weekHabitGoesRound() {
        HeavierServes x = Check.with("500+1+2+3;500+1+2+3+4+5+6;500+5");
        int first = 500;
        int second = 500;
        for (int week = 0; week < 14; week++) {
            x.stand(0);
            first += week % 3 + 1;
            second += week % 6 + 1;
            Check.due("three changes, week " + week, x.of(0, 0), first);
            Check.due("six changes, week " + week, x.of(1, 0), second);
            Check.due("one change, week " + week, x.of(2, 0), 505 + 5 * week);
        }
        Check.habit(x, 2, "+0+1+0+0");
        x.stand(0);
        x.stand(0);
        Check.due("by the number of the week, not of the habit", x.of(2, 0), 570);
        x.stand(0);
        x.stand(0);
        Check.due("by the number of the week, not of the habit", x.of(2, 0), 571);
    }

    /** "WEEK is 1 more (at first 0)" */
    private static void weekAtFirstZero() {
        HeavierServes x = Check.with("40;50");
        Check.due("at first", x.count(1), 0);
        x.stand(0);
        Check.due("one", x.count(1), 1);
        x.weeks(99);
        x.weeks(99);
        Check.due("199", x.count(1), 199);
    }

    private static void weekWeightsChangeLast() {
        HeavierServes x = Check.with("50-9;49+9");
        Check.due("by the weights ahead of the week", x.stand(3), 0);
        Check.due("by the next week's", x.stand(3), 1);
        x = Check.with("50-9;49+9");
        x.dies(0);
        x.stand(0);
        Check.due("one not alive does not change", x.of(0, 0), 50);
        Check.due("one alive does", x.of(1, 0), 58);
    }

    /** "those STAND who WILL, as it is at the WEEK's beginning" */
    private static void byWillAtTheBeginning() {
        HeavierServes x = Check.with("40+5;30", "(w>42)+(i=1)*(n=0)");
        Check.due("not yet", x.then(1), 1);
        Check.due("with 45", x.then(2), 0);
        x = Check.with("40;50;60", "s=1");
        Check.due("nobody serves at the beginning", x.then(5), -1);
        x.stand(1);
        Check.due("all will", x.then(1), 2);
        x = Check.with("40;50", "o=0");
        Check.due("the heavier one", x.then(1), 1);
        x = Check.with("40;50;60", "n=0+(i=2)");
        Check.due("by the number of the week", x.then(1), 1);
        Check.due("by the number of the week", x.then(2), 2);
    }

    /** "ROW: numbers told last by a call that says so." */
    private static void rowToldLast() {
        HeavierServes x = Check.with("40*1;50*2;60*3");
        Check.row("none at first", x);
        x.then(1);
        Check.row("then", x, 0, 0, 1);
        x.ever(1);
        Check.row("a shorter one", x, 7);
        x.party(2);
        Check.row("a longer one", x, 0, 0, 0, 2, 4);
        x.weighed(0, 999);
        x.span(0);
        Check.row("two", x, 999, 999);
        x.offs();
        Check.row("none", x);
    }

    /** "Fractions are told in lowest terms, upper and lower number." */
    private static void fractionsInLowestTerms() {
        int[] uppers = {1, 9, 4, 7, 3, 1, 2, 3, 1, 1};
        int[] lowers = {1, 10, 5, 10, 5, 2, 5, 10, 5, 10};
        for (int ill = 0; ill < 10; ill++) {
            HeavierServes x = Check.with("40");
            x.set(2, 0, ill);
            Check.due("odds", x.odds(0, 1), 0);
            Check.row("ill " + ill, x, uppers[ill], lowers[ill]);
        }
        HeavierServes x = Check.with("40;50");
        x.odds(0, 0);
        Check.row("never: 0 of 1", x, 0, 1);
        x.odds(0, 1);
        Check.row("never: 0 of 1", x, 0, 1);
        x.odds(0, 2);
        Check.row("never: 0 of 1", x, 0, 1);
        x.odds(1, 2);
        Check.row("for sure: 1 of 1", x, 1, 1);
    }

    /** "Refused calls .. change nothing but THE TEXT, which a call that reads it empties." */
    private static void refusedThatReadEmpty() {
        Alike.refusedReading("town", Alike::some, -1, HeavierServes::town);
        Alike.refusedReading("habit", Alike::some, -1, x -> x.habit(0));
        Alike.refusedReading("habit of none such", Alike::some, -100, x -> x.habit(4));
        Alike.refusedReading("year", Alike::some, -1, HeavierServes::year);
        Alike.refusedReading("will", Alike::full, -5, HeavierServes::will);
        Alike.refused("stand does not read it", Alike::some, -2, x -> x.stand(16));
    }
}
