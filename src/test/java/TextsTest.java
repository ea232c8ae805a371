import java.util.function.Consumer;

/** All short texts, and all short ends of texts that are about too long, read as the model reads them. */
public final class TextsTest {
    private static final String LINE = "123*3+1+2-3+4-5+6";
    private static final String FOUR_LINES = LINE + ";" + LINE + ";" + LINE + ";" + LINE;

    private static HeavierServes real;
    private static Model model;
    private static long texts = 0;

    private TextsTest() {
    }

    public static void main(String[] args) {
        towns();
        wills();
        habits();
        years();
        System.out.println(texts + " texts are read as the model reads them");
    }

    /** The start with every end of at most so many of the signs. */
    private static void each(String start, String signs, int most, Consumer<String> test) {
        if (start.length() <= 80) {
            test.accept(start);
            texts++;
        }
        for (int k = 0; k < signs.length() && most > 0; k++) {
            each(start + signs.charAt(k), signs, most - 1, test);
        }
    }

    private static void towns() {
        towns(0, "", "015*4+-;x", 5);
        towns(6, "", "05*4+;", 6);
        towns(7, "", "05*4+;x", 5);
        towns(8, "", "05*4+;x", 2);
        for (int cut = 68; cut <= FOUR_LINES.length(); cut++) {
            towns(0, FOUR_LINES.substring(0, cut), "05*4+;", 4);
        }
        for (String weight : new String[] {"1", "12", "0", "00", "000"}) {
            towns(0, FOUR_LINES + ";" + weight, "05*4+;", 4);
        }
        towns(3, FOUR_LINES, "05*4+;", 5);
        towns(4, FOUR_LINES, "05*4+;", 5);
    }

    private static void wills() {
        Consumer<String> test = s -> {
            begin(2);
            same("weeks(1)", real.weeks(1), model.weeks(1));
            type(s);
            same("will of " + s, real.will(), model.will());
            same("THE WILL behind " + s, real.of(1, 6), model.of(1, 6));
        };
        each("", "1w(-)<+*", 5, test);
        each("12", "34w", 3, test);
        each("((((", "1w(-)<", 5, test);
        each("1<2+(", "1w(-)<", 5, test);
        String sum = "w" + "+w".repeat(20);
        for (int cut = 36; cut <= 40; cut++) {
            each(sum.substring(0, cut), "1w(-)<x", 4, test);
        }
        each("-".repeat(37), "1w(-)<x", 4, test);
        each("((((" + "-".repeat(33), "1w(-)<x", 4, test);
    }

    private static void habits() {
        Consumer<String> test = s -> {
            begin(2);
            type(s);
            same("habit of " + s, real.habit(1), model.habit(1));
            same("CHANGES behind " + s, real.of(1, 7), model.of(1, 7));
        };
        each("", "+-19x", 6, test);
        each("+1-2+3-4+5", "+-19x", 5, test);
    }

    private static void years() {
        Consumer<String> test = s -> {
            begin(3);
            type(s);
            same("year of " + s, real.year(), model.year());
            for (int what : new int[] {1, 2, 7, 10, 11}) {
                same("count(" + what + ") behind " + s, real.count(what), model.count(what));
            }
            for (int k = 0; k < model.count(10); k++) {
                same("row(" + k + ") behind " + s, real.row(k), model.row(k));
            }
        };
        each("", "abch;x", 5, test);
        for (int signs = 57; signs <= 60; signs++) {
            each("a;".repeat(30).substring(0, signs), "abdh;x", 4, test);
        }
    }

    private static void towns(int people, String start, String signs, int most) {
        each(start, signs, most, s -> {
            begin(people);
            type(s);
            same("town of " + s, real.town(), model.town());
            same("people behind " + s, real.count(0), model.count(0));
            for (int person = people; person < model.count(0); person++) {
                for (int what = 0; what < 8; what++) {
                    same("of(" + person + ", " + what + ") behind " + s, real.of(person, what), model.of(person, what));
                }
            }
        });
    }

    /** New objects with so many people. */
    private static void begin(int people) {
        real = new HeavierServes();
        model = new Model();
        for (int k = 0; k < people; k++) {
            type("5");
            same("town of 5", real.town(), model.town());
        }
    }

    private static void type(String s) {
        real.end(0);
        model.end(0);
        for (int k = 0; k < s.length(); k += 4) {
            int v = 0;
            for (int j = 0; j < 4; j++) {
                v = v << 8 | (k + j < s.length() ? s.charAt(k + j) : 0);
            }
            real.sign(v);
            model.sign(v);
        }
        real.end(s.length());
        model.end(s.length());
    }

    private static void same(String what, long got, long due) {
        if (got != due) {
            System.out.println(what + " answered " + got + ", due is " + due);
            System.exit(1);
        }
    }
}
