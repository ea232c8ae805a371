import java.lang.reflect.InvocationTargetException;
import java.lang.reflect.Method;
import java.util.ArrayList;
import java.util.Comparator;
import java.util.List;
import java.util.NoSuchElementException;
import java.util.Random;

/** Runs of random calls on the class and on the model, which have to answer the same. */
public final class ModelTest {
    private static final String[] DEAR = {"ever", "soonest", "hold", "bribe", "starve", "cheapest", "explains", "absent", "rests", "most", "odds", "likely"};
    private static final String[] WILLS = {"", "s>1", "w>v", "s-o", "t=0", "n/2*2=n", "v<w+5", "(i=1)*(s>0)+(i=0)", "o<3", "(n>3)*(q-p)", "s>0",
        "(w-v)*(w-v)<30", "s=2+t", "n-n/3*3-i", "(v=0)+(s>i)"};
    private static final int[] EDGES = {Integer.MIN_VALUE, Integer.MAX_VALUE, -101, -100, -10, -9, -2, -1, 0, 1, 2, 3, 4, 8, 9, 10, 12, 13,
        20, 21, 60, 61, 76, 80, 99, 100, 255, 256, 999, 1000, 1010, 1011};

    private final Random random;
    private HeavierServes real;
    private Model model;
    private final List<String> log = new ArrayList<>();

    private ModelTest(long seed) {
        random = new Random(seed);
    }

    public static void main(String[] args) throws Exception {
        int runs = args.length > 0 ? Integer.parseInt(args[0]) : 600;
        long first = args.length > 1 ? Long.parseLong(args[1]) : 0;
        Method[] methods = HeavierServes.class.getDeclaredMethods();
        List<Method> face = new ArrayList<>();
        for (Method m : methods) {
            if (java.lang.reflect.Modifier.isPublic(m.getModifiers())) {
                face.add(m);
            }
        }
        face.sort(Comparator.comparing(Method::getName));
        if (face.size() != 50) {
            System.out.println("the face has " + face.size() + " methods, not 50");
            System.exit(1);
        }
        for (long seed = first; seed < first + runs; seed++) {
            new ModelTest(seed).run(face, seed);
        }
        System.out.println(runs + " runs are as the model has them");
    }

    private int pick(int low, int high) {
        return low + random.nextInt(high - low + 1);
    }

    private void run(List<Method> face, long seed) throws Exception {
        real = new HeavierServes();
        model = new Model();
        if (seed % 2 == 0) {
            runClose(face);
            return;
        }
        type(townText());
        call(face, "town");
        if (pick(0, 2) > 0) {
            type(willText(3));
            call(face, "will");
        }
        if (pick(0, 1) == 0) {
            for (int k = pick(1, 4); k > 0; k--) {
                call(face, "told", pick(0, 3), pick(1, 5));
            }
        }
        int calls = pick(10, 80);
        for (int k = 0; k < calls; k++) {
            step(face);
            compareAll(face);
        }
    }

    /** Few people of about the same weight that changes to and fro: weeks to come are of many kinds then. */
    private void runClose(List<Method> face) throws Exception {
        StringBuilder s = new StringBuilder();
        int people = pick(2, 5);
        for (int p = 0; p < people; p++) {
            s.append(p == 0 ? "" : ";").append(pick(40, 50)).append('*').append(pick(0, 2));
            for (int k = pick(0, 4); k > 0; k--) {
                s.append(pick(0, 1) == 0 ? '+' : '-').append(pick(0, 9));
            }
        }
        type(s.toString());
        call(face, "town");
        call(face, "scale", 0, pick(0, 1) == 0 ? 1 : pick(1, 9));
        for (int round = 0; round < 3; round++) {
            type(WILLS[pick(0, WILLS.length - 1)]);
            call(face, "will");
            call(face, "set", 2, pick(0, people - 1), pick(0, 9));
            call(face, "stand", pick(0, 1) == 0 ? 0 : pick(0, (1 << people) - 1));
            call(face, "law");
            call(face, "most", pick(0, people - 1), pick(0, 7));
            call(face, "most", pick(0, people - 1), pick(0, 7));
            compareAll(face);
            call(face, "odds", pick(0, people - 1), 2);
            compareAll(face);
            call(face, "byTurns", pick(0, 2), pick(0, 30));
            compareAll(face);
            call(face, "rests", pick(1, 4), pick(0, 4));
            compareAll(face);
            call(face, "hold", pick(0, 9));
            call(face, "bribe", pick(0, people - 1), pick(1, 9));
            compareAll(face);
            call(face, "starve", pick(0, people - 1), pick(0, 9));
            call(face, "cheapest");
            compareAll(face);
            call(face, "wipe");
            call(face, "then", pick(1, 5));
            call(face, "told", pick(0, people - 1), pick(1, 5));
            call(face, "told", pick(0, people - 1), pick(1, 5));
            call(face, "explains", pick(0, people - 1));
            compareAll(face);
            call(face, "absent");
            call(face, "fool", pick(0, people - 1), pick(0, 30));
            compareAll(face);
            call(face, "party", pick(0, 30));
            compareAll(face);
            call(face, "ever", pick(0, 4));
            compareAll(face);
            call(face, "weeks", pick(0, 5));
        }
    }

    private void step(List<Method> face) throws Exception {
        int kind = pick(0, 20);
        if (kind == 0) {
            type(pick(0, 3) == 0 ? spoilt(townText()) : townText());
            call(face, "town");
        } else if (kind == 1) {
            type(pick(0, 1) == 0 ? spoilt(willText(4)) : willText(4));
            call(face, "will");
        } else if (kind == 2) {
            type(pick(0, 2) == 0 ? spoilt(habitText()) : habitText());
            call(face, "habit", pick(-1, 8));
        } else if (kind == 3) {
            type(pick(0, 3) == 0 ? spoilt(yearText()) : yearText());
            call(face, "year");
        } else {
            Method m = face.get(pick(0, face.size() - 1));
            if (kind < 7) {
                m = named(face, DEAR[pick(0, DEAR.length - 1)]);
            }
            Object[] args = new Object[m.getParameterCount()];
            for (int k = 0; k < args.length; k++) {
                args[k] = pick(0, 15) == 0 ? EDGES[pick(0, EDGES.length - 1)] : likelyArgument(m.getName(), k);
            }
            compare(m, args);
        }
    }

    private int likelyArgument(String name, int k) {
        switch (name) {
            case "sign": return random.nextInt();
            case "end": return pick(0, 20);
            case "count": return pick(0, 13);
            case "row": return pick(0, 5);
            case "set": return k == 0 ? pick(0, 2) : k == 1 ? pick(0, 7) : pick(0, 12) == 0 ? pick(0, 999) : pick(0, 9);
            case "scale": return k == 0 ? pick(0, 1) : pick(-9, 9);
            case "sheet": return k == 0 ? pick(0, 3) : k == 1 ? pick(0, 8) : k == 2 ? pick(-300, 70000) : pick(-50, 50);
            case "stand": return pick(0, 255);
            case "weeks": return pick(0, 3) == 0 ? pick(0, 99) : pick(0, 5);
            case "feed": case "fast": return k == 0 ? pick(0, 7) : pick(1, 99);
            case "weighed": return k == 0 ? pick(0, 7) : pick(0, 2) == 0 ? pick(0, 1010) : pick(0, 20) * 6;
            case "served": return pick(0, 99);
            case "ever": return pick(0, 4);
            case "most": return k == 0 ? pick(0, 7) : pick(0, 6);
            case "rests": return k == 0 ? pick(1, 4) : pick(0, 5);
            case "byTurns": return k == 0 ? pick(0, 3) : pick(0, 30);
            case "keep": case "again": return pick(0, 2);
            case "odds": return k == 0 ? pick(0, 7) : pick(0, 2);
            case "laws": return k == 0 ? pick(0, 11) : pick(0, 3);
            case "change": return k == 0 ? pick(0, 7) : pick(0, 5);
            default: return k == 0 && !name.equals("hold") && !name.equals("then") && !name.equals("party") ? pick(0, 7) : pick(0, 12);
        }
    }

    private String townText() {
        StringBuilder s = new StringBuilder();
        int base = pick(1, 900);
        int lines = pick(1, 5);
        for (int k = 0; k < lines; k++) {
            s.append(k == 0 ? "" : ";").append(pick(0, 3) == 0 ? pick(1, 999) : base + pick(0, 12));
            if (pick(0, 1) == 0) {
                s.append('*').append(pick(0, 3));
            }
            s.append(pick(0, 1) == 0 ? habitText() : "");
        }
        return s.toString();
    }

    private String habitText() {
        StringBuilder s = new StringBuilder();
        for (int k = pick(0, 6); k > 0; k--) {
            s.append(pick(0, 1) == 0 ? '+' : '-').append(pick(0, 9));
        }
        return s.toString();
    }

    private String yearText() {
        StringBuilder s = new StringBuilder();
        for (int k = pick(0, 12); k > 0; k--) {
            int those = random.nextInt(256) & random.nextInt(256) & 31;
            for (int p = 0; p < 8; p++) {
                s.append((those >> p & 1) != 0 ? "" + (char) ('a' + p) : "");
            }
            s.append(k > 1 ? ";" : "");
        }
        return s.toString();
    }

    private String willText(int depth) {
        String s = sum(depth);
        return pick(0, 2) == 0 ? s + "<>=".charAt(pick(0, 2)) + sum(depth) : s;
    }

    private String sum(int depth) {
        StringBuilder s = new StringBuilder(thing(depth));
        for (int k = pick(0, 2); k > 0; k--) {
            s.append("+-*/-".charAt(pick(0, 4))).append(thing(depth));
        }
        return s.toString();
    }

    private String thing(int depth) {
        String minus = pick(0, 5) == 0 ? "-" : "";
        switch (pick(0, 4)) {
            case 0: return minus + pick(0, 20);
            case 1: return depth > 0 ? minus + "(" + willText(depth - 1) + ")" : "w";
            default: return minus + "iwpvqstno".charAt(pick(0, 8));
        }
    }

    private String spoilt(String s) {
        StringBuilder b = new StringBuilder(s);
        String signs = "0123456789+-*/<>=();abwpvqstnoixh ";
        for (int k = pick(1, 3); k > 0; k--) {
            int at = pick(0, b.length());
            if (pick(0, 3) == 0) {
                b.setLength(at);
            } else if (at < b.length() && pick(0, 1) == 0) {
                b.setCharAt(at, signs.charAt(pick(0, signs.length() - 1)));
            } else {
                b.insert(at, signs.charAt(pick(0, signs.length() - 1)));
            }
        }
        if (pick(0, 6) == 0) {
            b.append(b).append(b).append(b);
        }
        return b.toString();
    }

    private void type(String s) {
        String cut = s.length() > 80 ? s.substring(0, 80) : s;
        log.add("type " + cut);
        real.end(0);
        model.end(0);
        for (int k = 0; k < cut.length(); k += 4) {
            int v = 0;
            for (int j = 0; j < 4; j++) {
                v = v << 8 | (k + j < cut.length() ? cut.charAt(k + j) : 0);
            }
            real.sign(v);
            model.sign(v);
        }
        real.end(cut.length());
        model.end(cut.length());
    }

    private static Method named(List<Method> face, String name) {
        for (Method m : face) {
            if (m.getName().equals(name)) {
                return m;
            }
        }
        throw new IllegalArgumentException(name);
    }

    private void call(List<Method> face, String name, Object... args) throws Exception {
        compare(named(face, name), args);
    }

    private static String answer(Object on, Method m, Object[] args) throws Exception {
        try {
            return String.valueOf(m.invoke(on, args));
        } catch (InvocationTargetException e) {
            if (e.getCause() instanceof NoSuchElementException) {
                return "throws NoSuchElementException";
            }
            throw new IllegalStateException("on " + on.getClass(), e.getCause());
        }
    }

    private void compare(Method m, Object[] args) throws Exception {
        String line = m.getName() + java.util.Arrays.toString(args);
        log.add(line);
        String got = "";
        try {
            got = answer(real, m, args);
        } catch (IllegalStateException e) {
            e.printStackTrace(System.out);
        }
        String due = answer(model, Model.class.getMethod(m.getName(), m.getParameterTypes()), args);
        if (!got.equals(due)) {
            fail(line + " answered " + got + ", due is " + due);
        }
    }

    /** All that can be looked at without a change. */
    private void compareAll(List<Method> face) throws Exception {
        int kept = log.size();
        for (int what = -1; what <= 14; what++) {
            call(face, "count", what);
        }
        for (int k = 0; k <= real.count(10); k++) {
            call(face, "row", k);
        }
        for (int p = 0; p < real.count(0); p++) {
            for (int what = 0; what < 8; what++) {
                call(face, "of", p, what);
            }
        }
        for (int law = 0; law < real.count(4); law++) {
            for (int what = 0; what < 4; what++) {
                call(face, "laws", law, what);
            }
        }
        while (log.size() > kept) {
            log.remove(log.size() - 1);
        }
    }

    private void fail(String what) {
        for (String line : log) {
            System.out.println(line);
        }
        System.out.println(what);
        System.exit(1);
    }
}
