import java.util.NoSuchElementException;

/** Counts answers that are not as due; types texts. */
final class Check {
    private static int checks = 0;
    private static int wrong = 0;

    private Check() {
    }

    /** A call that may throw. */
    interface Call {
        long answer();
    }

    static void due(String what, long got, long want) {
        checks++;
        if (got != want) {
            wrong++;
            System.out.println(what + " answered " + got + ", due is " + want);
        }
    }

    static void yes(String what, boolean got) {
        due(what, got ? 1 : 0, 1);
    }

    static void no(String what, boolean got) {
        due(what, got ? 1 : 0, 0);
    }

    static void noSuch(String what, Call call) {
        long threw = 0;
        try {
            call.answer();
        } catch (NoSuchElementException e) {
            threw = 1;
        }
        due(what + " throws NoSuchElementException", threw, 1);
    }

    /** The whole ROW. */
    static void row(String what, HeavierServes x, long... numbers) {
        due(what + ": numbers of the row", x.count(10), numbers.length);
        for (int k = 0; k < numbers.length && k < x.count(10); k++) {
            due(what + ": number " + k + " of the row", x.row(k), numbers[k]);
        }
        noSuch(what + ": one number more", () -> x.row(numbers.length));
    }

    static void type(HeavierServes x, String text) {
        yes("end(0)", x.end(0));
        for (int k = 0; k < text.length(); k += 4) {
            int v = 0;
            for (int j = 0; j < 4; j++) {
                v = v << 8 | (k + j < text.length() ? text.charAt(k + j) : 0);
            }
            x.sign(v);
        }
        yes("end of " + text, x.end(text.length()));
    }

    static int town(HeavierServes x, String text) {
        type(x, text);
        return x.town();
    }

    static int will(HeavierServes x, String text) {
        type(x, text);
        return x.will();
    }

    static int habit(HeavierServes x, int person, String text) {
        type(x, text);
        return x.habit(person);
    }

    static int year(HeavierServes x, String text) {
        type(x, text);
        return x.year();
    }

    /** A new object with people as a text tells them. */
    static HeavierServes with(String town) {
        HeavierServes x = new HeavierServes();
        yes("a town " + town, town(x, town) > 0);
        return x;
    }

    static HeavierServes with(String town, String will) {
        HeavierServes x = with(town);
        due("a will " + will, will(x, will), 0);
        return x;
    }

    static String times(String part, int n) {
        return part.repeat(n);
    }

    static void close() {
        System.out.println(checks - wrong + " of " + checks + " answers are as due");
        if (wrong > 0 || checks == 0) {
            System.exit(1);
        }
    }
}
