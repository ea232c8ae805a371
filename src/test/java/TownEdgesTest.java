/** The boundary cases of promises 1 to 11, each by a test of its own. */
public final class TownEdgesTest {
    private static final String LINE = "100*1+1+1+1+1+1+1;";
    private static final String SEVENTY_TWO = LINE.repeat(4);

    private TownEdgesTest() {
    }

    public static void main(String[] args) {
        nobodyInANewObject();
        signHighestByteFirst();
        signUpTo80();
        signBeyond80();
        endOfAllSignsAndOfNone();
        endLeavesTheFirst();
        endRefused();
        townEmpty();
        townBehindWhatThereIs();
        townAliveAndNotServing();
        townWeightDigits();
        townPartyDigits();
        townChanges();
        townEndsTooEarly();
        townSignThatCantStand();
        townOf76Signs();
        townOfMoreThan76();
        townWeightOfZero();
        townWeightOfZeroCut();
        townSeventhChange();
        townWithoutRoom();
        townNothingComes();
        townTextOf80();
        willEmpty();
        willEndsTooEarly();
        willSignThatCantStand();
        willOf40Signs();
        willOfMoreThan40();
        willRefused();
        habitEmpty();
        habitOneToSix();
        habitSeventh();
        habitEndsTooEarly();
        habitRefused();
        habitOfNoneSuch();
        ofNoneSuch();
        ofAnotherWhat();
        changeNoneSuch();
        setBounds();
        setRefused();
        setOfOneNotAlive();
        scaleBounds();
        scaleRefused();
        sheetBytes();
        sheetShorts();
        sheetInts();
        sheetFewerAndMoreEntries();
        sheetMissing();
        sheetBelowZero();
        sheetRefused();
        Check.close();
    }

    /** "Nobody." */
    private static void nobodyInANewObject() {
        HeavierServes x = new HeavierServes();
        long[] due = {0, 0, -1, 0, 0, 0, 0, 0, 0, 0, 0, 0, 1, 0};
        for (int what = 0; what < due.length; what++) {
            Check.due("a new object's count(" + what + ")", x.count(what), due[what]);
        }
        for (int person : Alike.outside(0, -1)) {
            for (int what = 0; what < 8; what++) {
                int w = what;
                Alike.noSuch("of(" + person + ", " + what + ") of nobody", Alike::fresh, y -> y.of(person, w));
            }
            Alike.noSuch("change of nobody", Alike::fresh, y -> y.change(person, 0));
            Alike.noSuch("fool of nobody", Alike::fresh, y -> y.fool(person, 1));
            Alike.noSuch("laws of nobody", Alike::fresh, y -> y.laws(person, 0));
            Alike.noSuch("row of a new object", Alike::fresh, y -> y.row(person));
        }
        Check.no("nothing is kept", x.again(0) || x.again(1) || x.again(2));
    }

    /** "Four signs come behind THE TEXT, of v the highest byte first: how many it has." */
    private static void signHighestByteFirst() {
        HeavierServes x = new HeavierServes();
        Check.due("4", x.sign('1' << 24 | '2' << 16 | '3' << 8 | ';'), 4);
        Check.due("8", x.sign('4' << 24 | '*' << 16 | '3' << 8 | '-'), 8);
        Check.due("12", x.sign('9' << 24), 12);
        x.end(9);
        Check.due("123;4*3-9", x.town(), 2);
        Check.due("123", x.of(0, 0), 123);
        Check.due("4", x.of(1, 0), 4);
        Check.due("*3", x.of(1, 1), 3);
        Check.due("-9", x.change(1, 0), -9);
        for (int place = 0; place < 4; place++) {
            int digits = '1' << 24 | '2' << 16 | '3' << 8 | ';';
            x.sign(digits | 255 << 24 - 8 * place);
            Check.due("a byte of 255 at " + place, x.town(), -1 - place);
            x.sign(digits & ~(255 << 24 - 8 * place));
            Check.due("a byte of 0 at " + place, x.town(), -1 - place);
        }
    }

    /** The last that can come: 76 and four are 80. */
    private static void signUpTo80() {
        HeavierServes x = new HeavierServes();
        for (int k = 1; k <= 20; k++) {
            Check.due("sign number " + k, x.sign(0x3B3B3B3B), 4 * k);
        }
        Check.due("80 signs", x.count(11), 80);
        for (int n = 73; n <= 76; n++) {
            x.end(n);
            Check.due("four behind " + n, x.sign(0x61616161), n + 4);
        }
        x.end(0);
        Check.due("four behind none", x.sign(0), 4);
    }

    /** "Refused: there would be more than 80." */
    private static void signBeyond80() {
        for (int n = 77; n <= 80; n++) {
            int signs = n;
            Alike.Maker maker = () -> {
                HeavierServes x = Alike.full();
                x.end(signs);
                return x;
            };
            Alike.refused("four behind " + n, maker, -1, x -> x.sign(0x61616161));
            Alike.refused("four of 0 behind " + n, maker, -1, x -> x.sign(0));
        }
    }

    /** "THE TEXT has its first n signs alone: true" for 0 to as many as it has. */
    private static void endOfAllSignsAndOfNone() {
        HeavierServes x = new HeavierServes();
        Check.yes("end(0) of none", x.end(0));
        for (int k = 0; k < 20; k++) {
            x.sign(0);
        }
        for (int n = 80; n >= 0; n--) {
            Check.yes("end(" + n + ")", x.end(n));
            Check.due("signs", x.count(11), n);
            Check.no("end(" + (n + 1) + ")", x.end(n + 1));
            Check.due("signs", x.count(11), n);
        }
    }

    private static void endLeavesTheFirst() {
        HeavierServes x = new HeavierServes();
        Check.type(x, "765;432;");
        Check.yes("end(7)", x.end(7));
        Check.yes("end(3)", x.end(3));
        Check.due("four come behind the first 3", x.sign(';' << 24 | '8' << 16 | '9' << 8 | '+'), 7);
        Check.yes("end(6)", x.end(6));
        Check.due("765;89", x.town(), 2);
        Check.due("765", x.of(0, 0), 765);
        Check.due("89", x.of(1, 0), 89);
    }

    /** "false if it has not so many, or n is below 0." */
    private static void endRefused() {
        for (int n : Alike.outside(0, 4)) {
            Alike.refused("end(" + n + ") of 4", Alike::some, 0, x -> Alike.bit(x.end(n)));
        }
        for (int n : Alike.outside(0, 80)) {
            Alike.refused("end(" + n + ") of 80", Alike::full, 0, x -> Alike.bit(x.end(n)));
        }
        for (int n : Alike.outside(0, 0)) {
            Alike.refused("end(" + n + ") of none", Alike::fresh, 0, x -> Alike.bit(x.end(n)));
        }
    }

    /** "THE TEXT tells of THE TOWN (an empty one: nothing)": nothing comes, and nothing is forgotten. */
    private static void townEmpty() {
        Alike.refusedReading("an empty town", Alike::some, 0, x -> Check.town(x, ""));
        Alike.refusedReading("an empty town for eight", Alike::full, 0, x -> Check.town(x, ""));
        Alike.refusedReading("an empty town for nobody", Alike::fresh, 0, x -> Check.town(x, ""));
    }

    /** "behind what there is: how many LINES" */
    private static void townBehindWhatThereIs() {
        HeavierServes x = new HeavierServes();
        for (int k = 0; k < 8; k++) {
            Check.due("one more", Check.town(x, (k + 1) + "*" + k % 4 + "-" + k), 1);
            Check.due("people", x.count(0), k + 1);
            for (int p = 0; p <= k; p++) {
                Check.due("weight of " + p, x.of(p, 0), p + 1);
                Check.due("party of " + p, x.of(p, 1), p % 4);
                Check.due("habit of " + p, x.change(p, 0), -p);
            }
        }
    }

    /** "all come ALIVE, none serves yet" */
    private static void townAliveAndNotServing() {
        HeavierServes x = Check.with("40;50");
        x.stand(1);
        x.dies(1);
        x.set(2, 0, 9);
        Check.due("two more", Check.town(x, "60;70"), 2);
        Check.due("alive", x.count(6), 1 + 4 + 8);
        Check.due("who served serves on", x.count(2), 0);
        Check.due("for as long", x.count(3), 1);
        for (int p = 2; p < 4; p++) {
            Check.due("alive", x.of(p, 3), 1);
            Check.due("weeks served", x.of(p, 4), 0);
            Check.due("not ill", x.of(p, 2), 0);
        }
    }

    private static void comes(String town, int weight, int party, int changes) {
        HeavierServes x = new HeavierServes();
        Check.due("town " + town, Check.town(x, town), 1);
        Check.due("weight of " + town, x.of(0, 0), weight);
        Check.due("party of " + town, x.of(0, 1), party);
        Check.due("changes of " + town, x.of(0, 7), changes);
    }

    private static void fault(String town, int place) {
        HeavierServes x = new HeavierServes();
        Check.due("town " + town, Check.town(x, town), -1 - place);
        Check.due("nobody comes by " + town, x.count(0), 0);
        Check.due("the text is empty", x.count(11), 0);
    }

    /** "WEIGHT (1 to 3 digits, not 0)" */
    private static void townWeightDigits() {
        comes("1", 1, 0, 0);
        comes("9", 9, 0, 0);
        comes("01", 1, 0, 0);
        comes("10", 10, 0, 0);
        comes("99", 99, 0, 0);
        comes("001", 1, 0, 0);
        comes("010", 10, 0, 0);
        comes("100", 100, 0, 0);
        comes("999", 999, 0, 0);
        fault("1000", 3);
        fault("9999", 3);
        fault("0010", 3);
        fault("/", 0);
        fault(":", 0);
        fault("1/", 1);
        fault("1:", 1);
    }

    /** "perhaps * and a digit 0 .. 3 (PARTY, else 0)" */
    private static void townPartyDigits() {
        for (int party = 0; party < 4; party++) {
            comes("5*" + party, 5, party, 0);
            comes("5*" + party + "+1", 5, party, 1);
        }
        fault("5*4", 2);
        fault("5*9", 2);
        fault("5*/", 2);
        fault("5*00", 3);
        fault("5**1", 2);
        fault("5*1*1", 3);
        fault("*1", 0);
        fault("5+1*1", 3);
    }

    /** "then 0 to 6 CHANGES, each + or - and a digit" */
    private static void townChanges() {
        StringBuilder town = new StringBuilder("5");
        for (int n = 0; n <= 6; n++) {
            comes(town.toString(), 5, 0, n);
            town.append(n % 2 == 0 ? '+' : '-').append(9 - n);
        }
        fault(town.toString(), 13);
        HeavierServes x = Check.with("5+0+9-0-9");
        int[] due = {0, 9, 0, -9};
        for (int k = 0; k < 4; k++) {
            Check.due("change " + k, x.change(0, k), due[k]);
        }
        fault("5+10", 3);
        fault("5+/", 2);
        fault("5+:", 2);
        fault("5,1", 1);
        fault("5+1,1", 3);
    }

    /** "its end, if it ends too early" */
    private static void townEndsTooEarly() {
        fault("5;", 2);
        fault("5*", 2);
        fault("5+", 2);
        fault("5-", 2);
        fault("5*1+", 4);
        fault("5+1-", 4);
        fault("5+1-2;", 6);
        fault("5;6*", 4);
        fault("5+1+1+1+1+1+", 12);
        fault("5;6;7;8;9;1;2;", 14);
    }

    /** "the sign at p can't stand there" */
    private static void townSignThatCantStand() {
        fault("x", 0);
        fault(";", 0);
        fault(";5", 0);
        fault("5;;6", 2);
        fault("+5", 0);
        fault("5 ", 1);
        fault("5;-6", 2);
        fault("5++1", 2);
        fault("5*+1", 2);
        fault("5;6x7;8", 3);
        fault("5" + (char) 0, 1);
        fault("5" + (char) 255, 1);
        fault("5" + (char) ('6' + 128), 1);
    }

    /** "a text of at most 76 signs" */
    private static void townOf76Signs() {
        HeavierServes x = new HeavierServes();
        Check.due("76 signs", Check.town(x, SEVENTY_TWO + "12*3"), 5);
        Check.due("the last sign counts", x.of(4, 1), 3);
        x = new HeavierServes();
        Check.due("75 signs", Check.town(x, SEVENTY_TWO + "123"), 5);
        Check.due("the last sign counts", x.of(4, 0), 123);
        fault(SEVENTY_TWO + "12*4", 75);
        fault(SEVENTY_TWO + "12*", 75);
        fault(SEVENTY_TWO + "123*", 76);
        fault(SEVENTY_TWO + "12+1+", 76);
        fault(SEVENTY_TWO + "123;", 76);
    }

    /** "76, if it has more and the first 76 could go on or end" */
    private static void townOfMoreThan76() {
        fault(SEVENTY_TWO + "12*3;", 76);
        fault(SEVENTY_TWO + "12*3;5", 76);
        fault(SEVENTY_TWO + "12*3x", 76);
        fault(SEVENTY_TWO + "1+1-1", 76);
        fault(SEVENTY_TWO + "123*1", 76);
        fault(SEVENTY_TWO + "123;5", 76);
        fault(SEVENTY_TWO + "1;12;5", 76);
        fault(SEVENTY_TWO + "12*3" + "+1+1", 76);
        fault(SEVENTY_TWO + "1x*35", 73);
        fault(SEVENTY_TWO + "12*45", 75);
        fault(SEVENTY_TWO + "12+x5", 75);
        fault(SEVENTY_TWO + "1;;15", 74);
    }

    /** "a WEIGHT of 0 .. : at its last digit" */
    private static void townWeightOfZero() {
        fault("0", 0);
        fault("00", 1);
        fault("000", 2);
        fault("0000", 2);
        fault("0005", 2);
        fault("0x", 0);
        fault("00;5", 1);
        fault("0*1", 0);
        fault("00+1", 1);
        fault("5;0", 2);
        fault("5;00", 3);
        fault("5;000", 4);
        fault("5;000;7", 4);
    }

    /** "a WEIGHT of 0, as far as it stands in the first 76" */
    private static void townWeightOfZeroCut() {
        fault(SEVENTY_TWO + "1+1;", 76);
        fault(SEVENTY_TWO + "12;0", 75);
        fault(SEVENTY_TWO + "12;0" + "5", 75);
        fault(SEVENTY_TWO + "12;0" + "05", 75);
        fault(SEVENTY_TWO + "1;00", 75);
        fault(SEVENTY_TWO + "1;00" + "7", 75);
        fault(SEVENTY_TWO + "1;01" + "7", 76);
        fault(SEVENTY_TWO + "1;0*" + "7", 74);
        fault(SEVENTY_TWO + "0005", 74);
        fault(SEVENTY_TWO + "0005" + "7", 74);
        fault(SEVENTY_TWO + "1;00" + "0", 75);
        fault(SEVENTY_TWO + "1;09" + "9", 76);
    }

    /** "a seventh CHANGE: at its sign" */
    private static void townSeventhChange() {
        fault("5+1+1+1+1+1+1+", 13);
        fault("5+1+1+1+1+1+1-", 13);
        fault("5+1+1+1+1+1+1+1", 13);
        fault("5+1+1+1+1+1+1-x", 13);
        fault("7;5*2+1+1+1+1+1+1+1", 17);
        fault("5+1+1+1+1+1+11", 13);
        String seven = "1" + "+1".repeat(7);
        fault(LINE.repeat(3) + "100;12*2;" + seven, 76);
        fault(LINE.repeat(3) + "10;12*2;" + seven, 75);
        fault(LINE.repeat(3) + "10;12*2;" + seven + ";5", 75);
        fault(LINE.repeat(3) + "1;12*2;" + seven, 74);
    }

    /** "the first sign of a LINE for which there is no room" */
    private static void townWithoutRoom() {
        fault("1;2;3;4;5;6;7;8;9", 16);
        fault("1;2;3;4;5;6;7;8;00", 16);
        fault("1;2;3;4;5;6;7;8;x", 16);
        fault("1;2;3;4;5;6;7;8;", 16);
        fault("11;22;33;44;55;66;77;88;99", 24);
        for (int there = 1; there <= 8; there++) {
            HeavierServes x = Check.with("1;".repeat(there - 1) + "1");
            String room = "2;".repeat(8 - there);
            Check.due("no room behind " + there, Check.town(x, room + "22"), -1 - room.length());
            Check.due("no room behind " + there, Check.town(x, room + "0"), -1 - room.length());
            Check.due("people", x.count(0), there);
            if (there < 8) {
                Check.due("room behind " + there, Check.town(x, room.substring(0, room.length() - 1)), 8 - there);
                Check.due("people", x.count(0), 8);
            }
        }
        Alike.refusedReading("no room", Alike::full, -1, x -> Check.town(x, "5"));
        Alike.refusedReading("no room for what is none", Alike::full, -1, x -> Check.town(x, "x"));
    }

    /** "Nothing of it comes, if a LINE can't." */
    private static void townNothingComes() {
        String[] texts = {"5;x", "5;0", "5;6*4", "5;", "5;6;7;8;9", "5*3+1;6+"};
        int[] places = {2, 2, 4, 2, 8, 8};
        for (int k = 0; k < texts.length; k++) {
            String text = texts[k];
            Alike.refusedReading("town " + text, Alike::some, -1 - places[k], x -> Check.town(x, text));
            // What was read of it must not shine through when one comes to the same place.
            HeavierServes x = Alike.some();
            Check.town(x, text);
            Check.due("one comes", Check.town(x, "77"), 1);
            long[] due = {77, 0, 0, 1, 0, 80, 1, 0};
            for (int what = 0; what < 8; what++) {
                Check.due("of(4, " + what + ")", x.of(4, what), due[what]);
            }
        }
    }

    private static void townTextOf80() {
        fault("1" + "x".repeat(79), 1);
        fault("1;".repeat(40), 16);
        fault(SEVENTY_TWO + "12*3" + "-9-9", 76);
    }

    /** "THE TEXT is THE WILL (an empty one: none): 0." */
    private static void willEmpty() {
        HeavierServes x = Check.with("40;50", "w=40");
        Check.due("an empty one", Check.will(x, ""), 0);
        Check.due("none: 1", x.of(0, 6), 1);
        Check.due("none: 1", x.of(1, 6), 1);
        HeavierServes y = new HeavierServes();
        Check.due("an empty one of nobody", y.will(), 0);
    }

    private static void willFault(String will, int place) {
        HeavierServes x = Check.with("40;50", "w=40");
        Check.due("will " + will, Check.will(x, will), -1 - place);
        Check.due("the will is as it was", x.of(0, 6) * 10 + x.of(1, 6), 10);
        Check.due("the text is empty", x.count(11), 0);
    }

    /** "its end, if it ends too early" */
    private static void willEndsTooEarly() {
        String[] texts = {"(", "-", "--", "1+", "1-", "1*", "1/", "1<", "1>", "1=", "(1", "(1+", "((((1)))", "1+(2", "w*-", "-("};
        for (String text : texts) {
            willFault(text, text.length());
        }
    }

    /** "the sign at p can't stand there" */
    private static void willSignThatCantStand() {
        willFault("x", 0);
        willFault("a", 0);
        willFault("W", 0);
        willFault(")", 0);
        willFault("*1", 0);
        willFault("/1", 0);
        willFault("+1", 0);
        willFault("=1", 0);
        willFault("()", 1);
        willFault("1)", 1);
        willFault("(1))", 3);
        willFault("1w", 1);
        willFault("w1", 1);
        willFault("ww", 1);
        willFault("w(1)", 1);
        willFault("(1)w", 3);
        willFault("1++1", 2);
        willFault("1*/1", 2);
        willFault("1*+1", 2);
        willFault("1 +1", 1);
        willFault("1000", 3);
        willFault("1+0001", 5);
        willFault("1" + (char) 0, 1);
        willFault("" + (char) 0, 0);
        willFault("" + (char) ('w' + 128), 0);
        willFault("(((((1)))))", 4);
        willFault("1+(2*((-((", 9);
        willFault("1<2<3", 3);
        willFault("1=2>3", 3);
        willFault("(1>2=3)", 4);
        willFault("1<(2)=3", 5);
        willFault("1<<2", 2);
        willFault("1<=2", 2);
    }

    private static final String FORTY = "1+".repeat(19) + "11";

    /** "a text of at most 40 signs" */
    private static void willOf40Signs() {
        HeavierServes x = Check.with("40");
        Check.due("40 signs", Check.will(x, FORTY), 0);
        Check.due("30", x.of(0, 6), 30);
        Check.due("39 minuses", Check.will(x, "-".repeat(39) + "w"), 0);
        Check.due("-40", x.of(0, 6), -40);
        Check.due("20 things", Check.will(x, "1+".repeat(19) + "-w"), 0);
        Check.due("19 - 40", x.of(0, 6), -21);
        Check.due("all in brackets", Check.will(x, "((((" + "1+".repeat(15) + "11))))"), 0);
        Check.due("26", x.of(0, 6), 26);
        willFault("1+".repeat(20), 40);
        willFault("-".repeat(40), 40);
        willFault("(" + "1+".repeat(19) + "1", 40);
        willFault("1+".repeat(19) + "1x", 39);
    }

    /** "40, if it has more and the first 40 could go on or end" */
    private static void willOfMoreThan40() {
        willFault(FORTY + "1", 40);
        willFault(FORTY + ")", 40);
        willFault(FORTY + "x", 40);
        willFault("1+".repeat(19) + "1+" + "1", 40);
        willFault("(" + "1+".repeat(19) + "1" + ")", 40);
        willFault("1+".repeat(18) + "(111" + ")", 40);
        willFault("-".repeat(40) + "1", 40);
        willFault("1+".repeat(18) + "1234" + "5", 39);
        willFault("1+".repeat(19) + "1x" + "1", 39);
        willFault("1+".repeat(18) + "1<2<" + "1", 39);
        willFault("1+".repeat(40), 40);
    }

    private static void willRefused() {
        Alike.refusedReading("a will with a fault", Alike::some, -3, x -> Check.will(x, "1+"));
        Alike.refusedReading("a will that is too long", Alike::some, -41, x -> Check.will(x, FORTY + "+1"));
        Alike.refusedReading("a will with a fault", Alike::full, -5, HeavierServes::will);
        Alike.refusedReading("a will with a fault", Alike::fresh, -1, x -> Check.will(x, "?"));
    }

    /** "THE TEXT is the HABIT of one of PEOPLE (an empty one: none)" */
    private static void habitEmpty() {
        HeavierServes x = Check.with("40+1-2;50+3");
        Check.due("an empty one", Check.habit(x, 0, ""), 0);
        Check.due("none", x.of(0, 7), 0);
        Check.noSuch("change(0, 0)", () -> x.change(0, 0));
        Check.due("the other's is as it was", x.change(1, 0), 3);
        x.stand(0);
        Check.due("without a habit", x.of(0, 0), 40);
        Check.due("with one", x.of(1, 0), 53);
    }

    /** "0 to 6 CHANGES: how many" */
    private static void habitOneToSix() {
        HeavierServes x = Check.with("40+1;50+3;60");
        String habit = "";
        for (int n = 1; n <= 6; n++) {
            habit = habit + (n % 2 == 0 ? "-" : "+") + (n + 3);
            Check.due("habit " + habit, Check.habit(x, 2, habit), n);
            Check.due("changes", x.of(2, 7), n);
            for (int k = 0; k < n; k++) {
                Check.due("change " + k, x.change(2, k), k % 2 == 0 ? k + 4 : -k - 4);
            }
            int last = n;
            Check.noSuch("change " + n, () -> x.change(2, last));
        }
        Check.due("the text is empty", x.count(11), 0);
        Check.due("a shorter one", Check.habit(x, 2, "-0"), 1);
        Check.noSuch("change 1", () -> x.change(2, 1));
        Check.due("the others' are as they were", x.of(0, 7) * 10 + x.of(1, 7), 11);
    }

    private static void habitFault(String habit, int place) {
        Alike.refusedReading("habit " + habit, Alike::some, -1 - place, x -> Check.habit(x, 0, habit));
    }

    /** "a seventh CHANGE: at its sign; 12, if it has more" */
    private static void habitSeventh() {
        habitFault("+1+1+1+1+1+1+", 12);
        habitFault("+1+1+1+1+1+1-", 12);
        habitFault("+1+1+1+1+1+1+1", 12);
        habitFault("+1+1+1+1+1+1x", 12);
        habitFault("+1+1+1+1+1+11", 12);
        habitFault("+1+1+1+1+1+1;", 12);
        habitFault("+1".repeat(40), 12);
        habitFault("+1+1+1+1+1x+1+1", 10);
        habitFault("+1+1+1+1+1+x1", 11);
    }

    /** "as town()": its end, if it ends too early */
    private static void habitEndsTooEarly() {
        habitFault("+", 1);
        habitFault("-", 1);
        habitFault("+1-", 3);
        habitFault("+1+1+1+1+1+", 11);
    }

    private static void habitRefused() {
        habitFault("x", 0);
        habitFault("1", 0);
        habitFault("*1+1", 0);
        habitFault(";", 0);
        habitFault("+x", 1);
        habitFault("++1", 1);
        habitFault("+12", 2);
        habitFault("+1;", 2);
        habitFault("+1 +1", 2);
        habitFault("+1" + (char) 0, 2);
    }

    /** "-100: none such (asked first)" */
    private static void habitOfNoneSuch() {
        for (int person : Alike.outside(0, 3)) {
            Alike.refusedReading("habit of " + person, Alike::some, -100, x -> Check.habit(x, person, "+1"));
            Alike.refusedReading("habit with a fault of " + person, Alike::some, -100, x -> Check.habit(x, person, "x"));
            Alike.refusedReading("an empty habit of " + person, Alike::some, -100, x -> Check.habit(x, person, ""));
        }
        for (int person : Alike.NOBODIES) {
            Alike.refusedReading("habit of " + person + " of eight", Alike::full, -100, x -> Check.habit(x, person, "+1"));
        }
        Alike.refusedReading("habit of 0 of nobody", Alike::fresh, -100, x -> Check.habit(x, 0, "+1"));
        HeavierServes last = Alike.full();
        Check.due("habit of the last", Check.habit(last, 7, "+1"), 1);
        HeavierServes dead = Alike.some();
        Check.due("habit of one not alive", Check.habit(dead, 3, "+1-1"), 2);
    }

    /** "NoSuchElementException: none such" */
    private static void ofNoneSuch() {
        for (int what = 0; what < 8; what++) {
            int w = what;
            for (int person : Alike.outside(0, 3)) {
                Alike.noSuch("of(" + person + ", " + what + ")", Alike::some, x -> x.of(person, w));
            }
            Alike.noSuch("of(8, " + what + ")", Alike::full, x -> x.of(8, w));
            Alike.noSuch("of(-1, " + what + ")", Alike::full, x -> x.of(-1, w));
        }
        HeavierServes x = Alike.full();
        Check.due("of(7, 0)", x.of(7, 0), 1);
        Check.due("of(0, 0)", x.of(0, 0), 5);
    }

    /** "another what" */
    private static void ofAnotherWhat() {
        for (int what : Alike.outside(0, 7)) {
            Alike.noSuch("of(0, " + what + ")", Alike::some, x -> x.of(0, what));
            Alike.noSuch("of(3, " + what + ")", Alike::some, x -> x.of(3, what));
        }
        HeavierServes x = Alike.some();
        long[] first = {61, 1, 0, 1, 1, 64, 1, 2};
        long[] dead = {58, 3, 0, 0, 0, 60, 1, 1};
        for (int what = 0; what < 8; what++) {
            Check.due("of(0, " + what + ")", x.of(0, what), first[what]);
            Check.due("of(3, " + what + ")", x.of(3, what), dead[what]);
        }
    }

    /** "NoSuchElementException: none such": none of PEOPLE, and none of its CHANGES */
    private static void changeNoneSuch() {
        for (int k : Alike.outside(0, 1)) {
            Alike.noSuch("change(0, " + k + ")", Alike::some, x -> x.change(0, k));
        }
        for (int k : Alike.outside(0, -1)) {
            Alike.noSuch("change(1, " + k + ")", Alike::some, x -> x.change(1, k));
        }
        for (int person : Alike.outside(0, 3)) {
            Alike.noSuch("change(" + person + ", 0)", Alike::some, x -> x.change(person, 0));
        }
        for (int person : Alike.NOBODIES) {
            Alike.noSuch("change(" + person + ", 0)", Alike::full, x -> x.change(person, 0));
        }
        HeavierServes x = Check.with("1+1+2+3+4+5+6;1;1;1;1;1;1;2-1-2-3-4-5-6");
        Check.due("change(0, 0)", x.change(0, 0), 1);
        Check.due("change(0, 5)", x.change(0, 5), 6);
        Check.due("change(7, 5)", x.change(7, 5), -6);
        Check.noSuch("change(0, 6)", () -> x.change(0, 6));
        Check.noSuch("change(7, 6)", () -> x.change(7, 6));
        Check.noSuch("change(1, -1)", () -> x.change(1, -1));
    }

    /** "WEIGHT (what 0; 1 .. 999), PARTY (1; 0 .. 3), ILL (2; 0 .. 9) of one becomes v: what it was." */
    private static void setBounds() {
        int[] least = {1, 0, 0};
        int[] greatest = {999, 3, 9};
        for (int what = 0; what < 3; what++) {
            for (int person = 0; person < 8; person += 7) {
                HeavierServes x = Alike.full();
                int was = x.of(person, what);
                Check.due("set the least", x.set(what, person, least[what]), was);
                Check.due("the least", x.of(person, what), least[what]);
                Check.due("set the greatest", x.set(what, person, greatest[what]), least[what]);
                Check.due("the greatest", x.of(person, what), greatest[what]);
                Check.due("set the least", x.set(what, person, least[what]), greatest[what]);
                Check.due("the same", x.set(what, person, least[what]), least[what]);
                Check.due("no step more", x.count(7), 20);
            }
        }
    }

    /** "Refused: others." */
    private static void setRefused() {
        int[] least = {1, 0, 0};
        int[] greatest = {999, 3, 9};
        for (int what = 0; what < 3; what++) {
            int w = what;
            for (int v : Alike.outside(least[what], greatest[what])) {
                Alike.refused("set(" + what + ", 1, " + v + ")", Alike::some, -1, x -> x.set(w, 1, v));
            }
            for (int person : Alike.outside(0, 3)) {
                Alike.refused("set(" + what + ", " + person + ", 1)", Alike::some, -1, x -> x.set(w, person, 1));
            }
            for (int person : Alike.NOBODIES) {
                Alike.refused("set(" + what + ", " + person + ", 2) of eight", Alike::full, -1, x -> x.set(w, person, 2));
            }
        }
        for (int what : Alike.outside(0, 2)) {
            Alike.refused("set(" + what + ", 1, 2)", Alike::some, -1, x -> x.set(what, 1, 2));
        }
    }

    private static void setOfOneNotAlive() {
        HeavierServes x = Alike.some();
        Check.due("weight", x.set(0, 3, 7), 58);
        Check.due("party", x.set(1, 3, 0), 3);
        Check.due("ill", x.set(2, 3, 5), 0);
        Check.due("not alive", x.of(3, 3), 0);
    }

    /** "GRAIN (what 0; 1 .. 9), OFF (1; -9 .. 9) of THE SCALE becomes v: true." */
    private static void scaleBounds() {
        HeavierServes x = new HeavierServes();
        for (int grain = 1; grain <= 9; grain++) {
            Check.yes("grain " + grain, x.scale(0, grain));
            Check.due("grain", x.count(12), grain);
        }
        for (int off = -9; off <= 9; off++) {
            Check.yes("off " + off, x.scale(1, off));
            Check.due("off", x.count(13), off);
            Check.due("grain is as it was", x.count(12), 9);
        }
    }

    /** "Refused: others." */
    private static void scaleRefused() {
        for (int v : Alike.outside(1, 9)) {
            Alike.refused("grain " + v, Alike::some, 0, x -> Alike.bit(x.scale(0, v)));
        }
        for (int v : Alike.outside(-9, 9)) {
            Alike.refused("off " + v, Alike::some, 0, x -> Alike.bit(x.scale(1, v)));
        }
        for (int what : Alike.outside(0, 1)) {
            Alike.refused("scale(" + what + ", 1)", Alike::some, 0, x -> Alike.bit(x.scale(what, 1)));
        }
    }

    private static void weights(String what, HeavierServes x, int... due) {
        for (int p = 0; p < due.length; p++) {
            Check.due(what + ": weight of " + p, x.of(p, 0), due[p]);
        }
    }

    /** "bytes (kind 0) .. (of bytes, shorts the lowest bits, with their sign; put to 1 .. 999)" */
    private static void sheetBytes() {
        HeavierServes x = Check.with("40;50;60;70");
        Check.due("126 ..", x.sheet(0, 4, 126, 1), 126 + 127 + 1 + 1);
        weights("126, 127, -128, -127", x, 126, 127, 1, 1);
        Check.due("255 ..", x.sheet(0, 4, 255, 1), 1 + 1 + 1 + 2);
        weights("-1, 0, 1, 2", x, 1, 1, 1, 2);
        Check.due("256 + 100", x.sheet(0, 4, 356, 256), 400);
        Check.due("-256 + 100", x.sheet(0, 4, -156, -1), 100 + 99 + 98 + 97);
    }

    private static void sheetShorts() {
        HeavierServes x = Check.with("40;50;60;70");
        Check.due("998 ..", x.sheet(1, 4, 998, 1), 998 + 999 * 3);
        Check.due("32766 ..", x.sheet(1, 4, 32766, 1), 999 * 2 + 2);
        weights("32766, 32767, -32768, -32767", x, 999, 999, 1, 1);
        Check.due("65535 ..", x.sheet(1, 4, 65535, 2), 1 + 1 + 3 + 5);
        weights("-1, 1, 3, 5", x, 1, 1, 3, 5);
        Check.due("-65536 + 500", x.sheet(1, 4, -65036, 65536), 2000);
    }

    private static void sheetInts() {
        HeavierServes x = Check.with("40;50;60;70");
        Check.due("997 ..", x.sheet(2, 4, 997, 1), 997 + 998 + 999 * 2);
        Check.due("2, 1, 0, -1", x.sheet(2, 4, 2, -1), 2 + 1 + 1 + 1);
        Check.due("MAX ..", x.sheet(2, 4, Integer.MAX_VALUE, 1), 999 + 3);
        weights("MAX, MIN, ..", x, 999, 1, 1, 1);
        Check.due("MIN ..", x.sheet(2, 4, Integer.MIN_VALUE, -1), 1 + 999 * 3);
        weights("MIN, MAX, ..", x, 1, 999, 999, 999);
        Check.due("a step of MIN", x.sheet(2, 4, 5, Integer.MIN_VALUE), 5 + 1 + 5 + 1);
        Check.due("65536", x.sheet(2, 1, 65536, 0), 999 + 3);
    }

    /** "of n entries .. those behind it are 1: the sum of all" */
    private static void sheetFewerAndMoreEntries() {
        HeavierServes x = Check.with("40;50;60;70");
        int[] sums = {4, 10 + 3, 10 + 20 + 2, 10 + 20 + 30 + 1, 100, 100, 100, 100, 100};
        for (int n = 0; n <= 8; n++) {
            Check.due(n + " entries", x.sheet(2, n, 10, 10), sums[n]);
            for (int p = 0; p < 4; p++) {
                Check.due("weight of " + p, x.of(p, 0), p < n ? 10 * p + 10 : 1);
            }
        }
        Check.due("people", x.count(0), 4);
        HeavierServes eight = Check.with("1;1;1;1;1;1;1;1");
        Check.due("eight entries", eight.sheet(2, 8, 1, 1), 36);
        Check.due("no step", eight.count(7), 0);
        Check.due("nobody", new HeavierServes().sheet(2, 8, 1, 1), 0);
        HeavierServes dead = Check.with("10;20");
        dead.dies(1);
        Check.due("one not alive", dead.sheet(2, 2, 30, 1), 61);
        Check.due("its weight", dead.of(1, 0), 31);
    }

    /** "or a missing one (3) .. -3: missing (all 1)" */
    private static void sheetMissing() {
        for (int n : new int[] {Integer.MIN_VALUE, -1, 0, 1, 8}) {
            HeavierServes x = Check.with("40;50;60;70");
            Check.due("missing, n " + n, x.sheet(3, n, 9, 9), -3);
            weights("missing", x, 1, 1, 1, 1);
        }
        Check.due("missing for nobody", new HeavierServes().sheet(3, 0, 9, 9), -3);
    }

    /** "-2: n below 0 (of kinds 0 .. 2; nothing changes)" */
    private static void sheetBelowZero() {
        for (int kind = 0; kind < 3; kind++) {
            int k = kind;
            for (int n : new int[] {-1, -2, -8, -256, Integer.MIN_VALUE}) {
                Alike.refused("sheet(" + kind + ", " + n + ", ..)", Alike::some, -2, x -> x.sheet(k, n, 5, 5));
            }
        }
    }

    /** "NONE: another kind, n above 8 (these first)" */
    private static void sheetRefused() {
        for (int kind : Alike.outside(0, 3)) {
            for (int n : new int[] {-1, 0, 3, 8, 9}) {
                Alike.refused("sheet(" + kind + ", " + n + ", ..)", Alike::some, -1, x -> x.sheet(kind, n, 5, 5));
            }
        }
        for (int kind = 0; kind < 4; kind++) {
            int k = kind;
            for (int n : new int[] {9, 10, 256, Integer.MAX_VALUE}) {
                Alike.refused("sheet(" + kind + ", " + n + ", ..)", Alike::some, -1, x -> x.sheet(k, n, 5, 5));
            }
        }
    }
}
