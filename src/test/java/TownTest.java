/** Promises 1 to 11. */
public final class TownTest {
    private TownTest() {
    }

    public static void main(String[] args) {
        newObject();
        sign();
        end();
        town();
        townFaults();
        townTooLong();
        townRoom();
        will();
        willFaults();
        willFacts();
        habit();
        of();
        change();
        set();
        scale();
        sheet();
        Check.close();
    }

    private static void newObject() {
        HeavierServes x = new HeavierServes();
        long[] due = {0, 0, -1, 0, 0, 0, 0, 0, 0, 0, 0, 0, 1, 0};
        for (int what = 0; what < due.length; what++) {
            Check.due("a new object's count(" + what + ")", x.count(what), due[what]);
        }
        Check.due("NONE", HeavierServes.NONE, -1);
    }

    private static void sign() {
        HeavierServes x = new HeavierServes();
        for (int k = 1; k <= 20; k++) {
            Check.due("sign", x.sign(0x61623B63), 4 * k);
        }
        Check.due("an 84th sign", x.sign(0), -1);
        Check.due("signs", x.count(11), 80);
        Check.yes("end(78)", x.end(78));
        Check.due("four behind 78", x.sign(0), -1);
        Check.due("signs", x.count(11), 78);
        Check.yes("end(76)", x.end(76));
        Check.due("four behind 76", x.sign(0), 80);
        x = new HeavierServes();
        x.sign(0x31323300);
        x.end(3);
        Check.due("the highest byte first", x.town(), 1);
        Check.due("123", x.of(0, 0), 123);
        x.sign(0x31FF0000);
        Check.due("a sign above 127", x.town(), -2);
    }

    private static void end() {
        HeavierServes x = new HeavierServes();
        Check.no("end(1) of none", x.end(1));
        Check.yes("end(0) of none", x.end(0));
        x.sign(0);
        Check.no("end(-1)", x.end(-1));
        Check.no("end(5)", x.end(5));
        Check.due("signs", x.count(11), 4);
        Check.yes("end(4)", x.end(4));
        Check.yes("end(2)", x.end(2));
        Check.due("signs", x.count(11), 2);
        Check.no("end(3)", x.end(3));
    }

    private static void town() {
        HeavierServes x = new HeavierServes();
        Check.due("lines", Check.town(x, "7;050*3;999*0+0-9;12+1+2+3+4+5+6"), 4);
        Check.due("signs left", x.count(11), 0);
        Check.due("people", x.count(0), 4);
        Check.due("alive", x.count(6), 15);
        Check.due("nobody serves", x.count(2), -1);
        long[][] due = {{7, 0, 0, 1, 0, 7, 1, 0}, {50, 3, 0, 1, 0, 50, 1, 0}, {999, 0, 0, 1, 0, 999, 1, 2}, {12, 0, 0, 1, 0, 12, 1, 6}};
        for (int p = 0; p < 4; p++) {
            for (int what = 0; what < 8; what++) {
                Check.due("of(" + p + ", " + what + ")", x.of(p, what), due[p][what]);
            }
        }
        Check.due("+0", x.change(2, 0), 0);
        Check.due("-9", x.change(2, 1), -9);
        Check.due("+6", x.change(3, 5), 6);
        x.stand(4);
        x.feed(0, 1);
        Check.due("an empty town", Check.town(x, ""), 0);
        Check.due("an empty one forgets nothing", x.count(7), 2);
        Check.due("a spoilt town", Check.town(x, "5;x"), -3);
        Check.due("a spoilt one forgets nothing", x.count(7), 2);
        Check.due("nothing of it comes", x.count(0), 4);
        Check.due("behind what there is", Check.town(x, "31"), 1);
        Check.due("31", x.of(4, 0), 31);
        Check.due("who serves goes on", x.count(2), 2);
        Check.due("steps are forgotten", x.count(7), 0);
    }

    private static void townFaults() {
        String[] texts = {"x", ";", "0", "00", "000", "0000", "1000", "5;", "5;;", "5*", "5*4", "5*1*1", "5+", "5+-", "5+1*1", "5+12",
            "5+1+1+1+1+1+1+", "5+1+1+1+1+1+1-1", "5 ", "5;00;5", "5;000", "5;0x", "05;007;0", "-5", "*1", "5*1+1;12;3-"};
        int[] places = {0, 0, 0, 1, 2, 2, 3, 2, 2, 2, 2, 3, 2, 2, 3, 3, 13, 13, 1, 3, 4, 2, 7, 0, 0, 11};
        for (int k = 0; k < texts.length; k++) {
            HeavierServes x = new HeavierServes();
            Check.due("town " + texts[k], Check.town(x, texts[k]), -1 - places[k]);
            Check.due("nobody comes", x.count(0), 0);
            Check.due("the text is gone", x.count(11), 0);
        }
    }

    private static void townTooLong() {
        String line = "100*1+1+1+1+1+1+1;";
        String four = Check.times(line, 4);
        Check.due("72 signs", four.length(), 72);
        HeavierServes x = new HeavierServes();
        Check.due("76 signs, a fault at the last", Check.town(x, four + "9*10"), -1 - 75);
        Check.due("76 signs", Check.town(x, four + "10*1"), 5);
        x = new HeavierServes();
        Check.due("77, the first 76 could end", Check.town(x, four + "10*1;"), -1 - 76);
        Check.due("78, the first 76 could go on", Check.town(x, four + "10*1+1"), -1 - 76);
        Check.due("77, the first 76 could but go on", Check.town(x, four + "100*1"), -1 - 76);
        Check.due("76 that end too early", Check.town(x, four + "100*"), -1 - 76);
        Check.due("77, a fault within 76", Check.town(x, four + "1x0*1"), -1 - 73);
        Check.due("77, a weight of 0 as far as it stands", Check.town(x, four + "5;0" + "05"), -1 - 75);
        Check.due("77, a change without its digit", Check.town(x, four + "5+;05"), -1 - 74);
        Check.due("77, a weight of 0 cut", Check.town(x, four + "15;05"), -1 - 75);
        Check.due("77, a weight cut", Check.town(x, four + "15;50"), -1 - 76);
        Check.due("76, a weight of 0 at its end", Check.town(x, four + "15;0"), -1 - 75);
        Check.due("nobody comes", x.count(0), 0);
    }

    private static void townRoom() {
        HeavierServes x = new HeavierServes();
        Check.due("a ninth line", Check.town(x, Check.times("1;", 8) + "1"), -17);
        Check.due("a ninth line of nothing", Check.town(x, Check.times("1;", 8)), -17);
        Check.due("a fault ahead of the ninth line", Check.town(x, "1;1;x;1;1;1;1;1;1"), -5);
        Check.due("eight", Check.town(x, Check.times("1;", 7) + "1"), 8);
        Check.due("no room", Check.town(x, "1"), -1);
        Check.due("no room for a spoilt one", Check.town(x, "x"), -1);
        Check.due("an empty one", Check.town(x, ""), 0);
        x = Check.with("1;2;3;4;5");
        Check.due("room for three", Check.town(x, "6;77;8;9"), -1 - 7);
        Check.due("nothing comes", x.count(0), 5);
        Check.due("three", Check.town(x, "6;77;8"), 3);
        Check.due("77", x.of(6, 0), 77);
    }

    private static void willIs(String text, int due) {
        HeavierServes x = Check.with("40*2;50");
        Check.due("will " + text, Check.will(x, text), 0);
        Check.due("the text is gone", x.count(11), 0);
        Check.due(text, x.of(0, 6), due);
    }

    private static void will() {
        willIs("7", 7);
        willIs("007", 7);
        willIs("1+2*3", 7);
        willIs("9-3-2", 4);
        willIs("8-3+2", 7);
        willIs("100/7/2", 7);
        willIs("7/2*2", 6);
        willIs("-7/2", -3);
        willIs("7/-2", -3);
        willIs("5/0", 0);
        willIs("5/(2-2)+1", 1);
        willIs("-2*3", -6);
        willIs("--5", 5);
        willIs("---5", -5);
        willIs("1--2", 3);
        willIs("1+-2", -1);
        willIs("2*--3", 6);
        willIs("1<2", 1);
        willIs("2<2", 0);
        willIs("3>2", 1);
        willIs("2>2", 0);
        willIs("2=2", 1);
        willIs("2=3", 0);
        willIs("1+1=2*1", 1);
        willIs("(1<2)<(3>2)", 0);
        willIs("((((5))))", 5);
        willIs("-(2-(3-(4-(5-6))))", -4);
        willIs("(1+2)*(3+4)", 21);
        willIs("-(5)", -5);
        willIs("999*999*999*999", 999 * 999 * 999 * 999);
        willIs("1+1+1+1+1+1+1+1+1+1+1+1+1+1+1+1+1+1+1+10", 29);
        willIs("w-p", 38);
        HeavierServes x = Check.with("40;50", "0");
        Check.due("0", x.of(0, 6), 0);
        Check.due("an empty will", Check.will(x, ""), 0);
        Check.due("all will", x.of(0, 6), 1);
    }

    private static void willFaults() {
        String[] texts = {"x", "(", "()", ")", "1)", "(1", "(1))", "1+", "1++2", "-", "*1", "1*/2", "1234", "1w", "w1", "ww", "1<2<3", "(1<2=3)",
            "<1", "1<", "1<<2", "(((((1)))))", "((((1)))))", "1 ", "w+W", "(1+2", "2(3)", "(2)3"};
        int[] places = {0, 1, 1, 0, 1, 2, 3, 2, 2, 1, 0, 2, 3, 1, 1, 1, 3, 4, 0, 2, 2, 4, 9, 1, 2, 4, 1, 3};
        for (int k = 0; k < texts.length; k++) {
            HeavierServes x = Check.with("40;50", "w=40");
            Check.due("will " + texts[k], Check.will(x, texts[k]), -1 - places[k]);
            Check.due("the text is gone", x.count(11), 0);
            Check.due("the will is as it was", x.of(0, 6) * 2 + x.of(1, 6), 2);
        }
        HeavierServes x = Check.with("40");
        String forty = Check.times("1+", 19) + "11";
        Check.due("40 signs", Check.will(x, forty), 0);
        Check.due("30", x.of(0, 6), 30);
        Check.due("41, the first 40 could end", Check.will(x, forty + "1"), -41);
        Check.due("41, the first 40 could go on", Check.will(x, Check.times("1+", 20) + "1"), -41);
        Check.due("40 that end too early", Check.will(x, Check.times("1+", 20)), -41);
        Check.due("41, a fault at 39", Check.will(x, forty.substring(0, 39) + "x1"), -40);
        Check.due("41, brackets open", Check.will(x, "(" + forty), -41);
        Check.due("40 minuses", Check.will(x, Check.times("-", 40)), -41);
        Check.due("39 minuses", Check.will(x, Check.times("-", 39) + "w"), 0);
        Check.due("-40", x.of(0, 6), -40);
    }

    private static void fact(HeavierServes x, String name, int first, int second) {
        Check.due("will " + name, Check.will(x, name), 0);
        Check.due(name + " of 0", x.of(0, 6), first);
        Check.due(name + " of 1", x.of(1, 6), second);
    }

    private static void willFacts() {
        HeavierServes x = Check.with("40*2;50*1+3");
        fact(x, "i", 0, 1);
        fact(x, "w", 40, 50);
        fact(x, "p", 2, 1);
        fact(x, "v", 0, 0);
        fact(x, "q", -1, -1);
        fact(x, "s", 0, 0);
        fact(x, "t", 0, 0);
        fact(x, "n", 0, 0);
        fact(x, "o", 0, 0);
        x.stand(1);
        x.stand(2);
        x.stand(3);
        x.law();
        x.law();
        fact(x, "v", 59, 59);
        fact(x, "q", 1, 1);
        fact(x, "s", 2, 2);
        fact(x, "t", 2, 2);
        fact(x, "n", 3, 3);
        fact(x, "o", 1, 2);
        x.dies(1);
        fact(x, "v", 0, 0);
        fact(x, "q", -1, -1);
        fact(x, "s", 0, 0);
        fact(x, "t", 0, 0);
        fact(x, "o", 1, 2);
    }

    private static void habit() {
        HeavierServes x = Check.with("40*2+1;50");
        Check.due("two", Check.habit(x, 1, "+3-9"), 2);
        Check.due("3", x.change(1, 0), 3);
        Check.due("-9", x.change(1, 1), -9);
        Check.due("six", Check.habit(x, 1, "+1+2+3+4+5+6"), 6);
        String[] texts = {"+", "x", "+x", "+1-", "+12", "+1+1+1+1+1+1+", "+1+1+1+1+1+1x", "+1+1+1+1+1x+1", "1"};
        int[] places = {1, 0, 1, 3, 2, 12, 12, 10, 0};
        for (int k = 0; k < texts.length; k++) {
            Check.due("habit " + texts[k], Check.habit(x, 1, texts[k]), -1 - places[k]);
            Check.due("the text is gone", x.count(11), 0);
            Check.due("it is as it was", x.of(1, 7) * 10 + x.change(1, 5), 66);
        }
        Check.due("none such", Check.habit(x, 2, "x"), -100);
        Check.due("the text is gone", x.count(11), 0);
        Check.due("none such", Check.habit(x, -1, "+1"), -100);
        Check.due("an empty one", Check.habit(x, 1, ""), 0);
        Check.due("none", x.of(1, 7), 0);
        Check.due("the other's is as it was", x.change(0, 0), 1);
    }

    private static void of() {
        HeavierServes x = Check.with("40*2+1;50", "w-45");
        x.scale(0, 9);
        x.scale(1, -2);
        x.set(2, 1, 7);
        x.stand(2);
        x.stand(0);
        long[] due = {50, 0, 7, 1, 2, 45, 5, 0};
        for (int what = 0; what < 8; what++) {
            Check.due("of(1, " + what + ")", x.of(1, what), due[what]);
        }
        x.dies(1);
        Check.due("alive", x.of(1, 3), 0);
        Check.due("served", x.of(1, 4), 2);
        Check.noSuch("of(2, 0)", () -> x.of(2, 0));
        Check.noSuch("of(-1, 0)", () -> x.of(-1, 0));
        Check.noSuch("of(0, 8)", () -> x.of(0, 8));
        Check.noSuch("of(0, -1)", () -> x.of(0, -1));
    }

    private static void change() {
        HeavierServes x = Check.with("40*2+1-2;50");
        Check.due("change(0, 1)", x.change(0, 1), -2);
        Check.noSuch("change(0, 2)", () -> x.change(0, 2));
        Check.noSuch("change(0, -1)", () -> x.change(0, -1));
        Check.noSuch("change(1, 0)", () -> x.change(1, 0));
        Check.noSuch("change(2, 0)", () -> x.change(2, 0));
        Check.noSuch("change(-1, 0)", () -> x.change(-1, 0));
    }

    private static void set() {
        HeavierServes x = Check.with("40*2;50");
        Check.due("weight", x.set(0, 0, 999), 40);
        Check.due("weight", x.set(0, 0, 1), 999);
        Check.due("weight 0", x.set(0, 0, 0), -1);
        Check.due("weight 1000", x.set(0, 0, 1000), -1);
        Check.due("party", x.set(1, 0, 3), 2);
        Check.due("party 4", x.set(1, 0, 4), -1);
        Check.due("party -1", x.set(1, 0, -1), -1);
        Check.due("ill", x.set(2, 0, 9), 0);
        Check.due("ill", x.set(2, 0, 0), 9);
        Check.due("ill 10", x.set(2, 0, 10), -1);
        Check.due("ill -1", x.set(2, 0, -1), -1);
        Check.due("what 3", x.set(3, 0, 1), -1);
        Check.due("what -1", x.set(-1, 0, 1), -1);
        Check.due("person 2", x.set(0, 2, 1), -1);
        Check.due("person -1", x.set(0, -1, 1), -1);
        Check.due("weight, party, ill", x.of(0, 0) * 100 + x.of(0, 1) * 10 + x.of(0, 2), 130);
        Check.due("no step", x.count(7), 0);
    }

    private static void scale() {
        HeavierServes x = Check.with("40;5;999");
        Check.yes("off -9", x.scale(1, -9));
        Check.due("40 - 9", x.of(0, 5), 31);
        Check.due("below 0", x.of(1, 5), 0);
        Check.yes("grain 9", x.scale(0, 9));
        Check.due("31 in nines", x.of(0, 5), 27);
        Check.yes("off 9", x.scale(1, 9));
        Check.due("1008 in nines", x.of(2, 5), 1008);
        Check.no("grain 0", x.scale(0, 0));
        Check.no("grain 10", x.scale(0, 10));
        Check.no("off 10", x.scale(1, 10));
        Check.no("off -10", x.scale(1, -10));
        Check.no("what 2", x.scale(2, 1));
        Check.no("what -1", x.scale(-1, 1));
        Check.due("grain", x.count(12), 9);
        Check.due("off", x.count(13), 9);
    }

    private static void sheet() {
        HeavierServes x = Check.with("40;50;60");
        Check.due("bytes 127, 129, ..", x.sheet(0, 3, 127, 2), 127 + 1 + 1);
        Check.due("bytes 300, 40", x.sheet(0, 2, 300, -260), 44 + 40 + 1);
        Check.due("of(2, 0)", x.of(2, 0), 1);
        Check.due("shorts", x.sheet(1, 2, 65536 + 70, 65536 * 3 + 5), 70 + 75 + 1);
        Check.due("shorts below 0", x.sheet(1, 1, 32768, 0), 3);
        Check.due("ints", x.sheet(2, 3, 998, 1), 998 + 999 + 999);
        Check.due("ints that wrap", x.sheet(2, 2, Integer.MAX_VALUE, 1), 999 + 1 + 1);
        Check.due("more than there are", x.sheet(2, 8, 10, 10), 60);
        Check.due("none", x.sheet(2, 0, 10, 10), 3);
        x.sheet(2, 3, 10, 10);
        Check.due("n below 0", x.sheet(0, -1, 5, 5), -2);
        Check.due("n above 8", x.sheet(2, 9, 5, 5), -1);
        Check.due("missing, n above 8", x.sheet(3, 9, 5, 5), -1);
        Check.due("another kind, n below 0", x.sheet(4, -1, 5, 5), -1);
        Check.due("kind -1", x.sheet(-1, 1, 5, 5), -1);
        Check.due("nothing changed", x.of(0, 0) + x.of(1, 0) + x.of(2, 0), 60);
        Check.due("missing", x.sheet(3, -5, 5, 5), -3);
        Check.due("all 1", x.of(0, 0) + x.of(1, 0) + x.of(2, 0), 3);
        x.sheet(2, 3, 10, 10);
        Check.due("missing", x.sheet(3, 8, 5, 5), -3);
        Check.due("all 1", x.of(0, 0) + x.of(1, 0) + x.of(2, 0), 3);
    }
}
