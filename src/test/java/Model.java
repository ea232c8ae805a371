import java.math.BigInteger;
import java.util.ArrayDeque;
import java.util.ArrayList;
import java.util.Arrays;
import java.util.HashSet;
import java.util.List;
import java.util.NoSuchElementException;
import java.util.Set;
import java.util.function.BiPredicate;
import java.util.function.IntPredicate;

/** The document once more, by brute force and without regard to speed, to compare the class with. */
public final class Model {
    /** What THE WILL is worked out of, for one of PEOPLE. */
    private interface Part {
        int of(World w, int person);
    }

    private static final class Law {
        int maker;
        int made;
        int fell = -1;

        Law copy() {
            Law l = new Law();
            l.maker = maker;
            l.made = made;
            l.fell = fell;
            return l;
        }
    }

    private static final class Citizen {
        int weight;
        boolean alive = true;
        int served;

        Citizen copy() {
            Citizen c = new Citizen();
            c.weight = weight;
            c.alive = alive;
            c.served = served;
            return c;
        }
    }

    /** All that weeks, cakes and LAWS change. */
    private static final class World {
        List<Citizen> people = new ArrayList<>();
        List<Law> laws = new ArrayList<>();
        List<Integer> servers = new ArrayList<>();
        int server = -1;
        int since;

        World copy() {
            World w = new World();
            for (Citizen c : people) {
                w.people.add(c.copy());
            }
            for (Law l : laws) {
                w.laws.add(l.copy());
            }
            w.servers.addAll(servers);
            w.server = server;
            w.since = since;
            return w;
        }

        int week() {
            return servers.size();
        }

        int fallen(int maker) {
            int n = 0;
            for (Law l : laws) {
                if (l.maker == maker && l.fell < 0) {
                    l.fell = week();
                    n++;
                }
            }
            return n;
        }

        int holding() {
            int n = 0;
            for (Law l : laws) {
                n += l.fell < 0 ? 1 : 0;
            }
            return n;
        }
    }

    private World world = new World();
    private final List<Integer> parties = new ArrayList<>();
    private final List<Integer> ills = new ArrayList<>();
    private final List<List<Integer>> habits = new ArrayList<>();
    private StringBuilder text = new StringBuilder();
    private Part will = null;
    private int grain = 1;
    private int off = 0;
    private List<Long> row = new ArrayList<>();
    private final ArrayDeque<World> undo = new ArrayDeque<>();
    private final World[] kept = new World[3];
    private final List<int[]> weighings = new ArrayList<>();
    private final List<int[]> tellings = new ArrayList<>();

    // ---- helpers

    private int n() {
        return world.people.size();
    }

    private boolean is(int person) {
        return person >= 0 && person < n();
    }

    private boolean lives(int person) {
        return is(person) && world.people.get(person).alive;
    }

    private void tell(long... numbers) {
        row = new ArrayList<>();
        for (long l : numbers) {
            row.add(l);
        }
    }

    private void remember(World before) {
        undo.addLast(before);
        if (undo.size() > 20) {
            undo.removeFirst();
        }
    }

    private static int shows(int weight, int grain, int off) {
        int x = weight + off;
        if (x < 0) {
            x = 0;
        }
        return x / grain * grain;
    }

    private int shows(World w, int person) {
        return shows(w.people.get(person).weight, grain, off);
    }

    private boolean wills(World w, int person) {
        return will == null || will.of(w, person) != 0;
    }

    /** A WEEK with those that stand: how many laws fell. */
    private int week(World w, Set<Integer> standing) {
        int best = -1;
        for (int p = 0; p < w.people.size(); p++) {
            if (standing.contains(p) && w.people.get(p).alive && p != w.server
                && (best < 0 || shows(w, p) > shows(w, best))) {
                best = p;
            }
        }
        int fell = 0;
        if (best >= 0 && (w.server < 0 || shows(w, best) > shows(w, w.server))) {
            fell = w.server < 0 ? 0 : w.fallen(w.server);
            w.server = best;
            w.since = 0;
        }
        if (w.server >= 0) {
            w.people.get(w.server).served++;
            w.since++;
        }
        for (int p = 0; p < w.people.size(); p++) {
            Citizen c = w.people.get(p);
            List<Integer> habit = habits.get(p);
            if (c.alive && !habit.isEmpty()) {
                c.weight = Math.max(1, Math.min(999, c.weight + habit.get(w.week() % habit.size())));
            }
        }
        w.servers.add(w.server);
        return fell;
    }

    private int willWeek(World w) {
        return willWeek(w, p -> true);
    }

    private int willWeek(World w, IntPredicate asked) {
        return week(w, willing(w, asked));
    }

    private Set<Integer> willing(World w, IntPredicate asked) {
        Set<Integer> s = new HashSet<>();
        for (int p = 0; p < w.people.size(); p++) {
            if (asked.test(p) && wills(w, p)) {
                s.add(p);
            }
        }
        return s;
    }

    private static Set<Integer> bits(int those) {
        Set<Integer> s = new HashSet<>();
        for (int k = 0; k < 32; k++) {
            if ((those >> k & 1) != 0) {
                s.add(k);
            }
        }
        return s;
    }

    private String takeText() {
        String s = text.toString();
        text = new StringBuilder();
        return s;
    }

    // ---- the town

    public int sign(int v) {
        if (text.length() + 4 > 80) {
            return -1;
        }
        text.append((char) (v >>> 24)).append((char) (v >>> 16 & 255)).append((char) (v >>> 8 & 255)).append((char) (v & 255));
        return text.length();
    }

    public boolean end(int n) {
        if (n < 0 || n > text.length()) {
            return false;
        }
        text.setLength(n);
        return true;
    }

    /** The first place of a LINE's text that can't stand; -1 if it can go on, -2 if it can go on or end. */
    private static int lineFault(String line, boolean closed) {
        String regex = "\\d{1,3}(\\*[0-3])?([+-]\\d){0,6}";
        java.util.regex.Pattern p = java.util.regex.Pattern.compile(regex);
        for (int len = 1; len <= line.length(); len++) {
            java.util.regex.Matcher m = p.matcher(line.substring(0, len));
            if (!m.matches() && !m.hitEnd()) {
                return zero(line, len - 1, len - 1);
            }
        }
        boolean whole = p.matcher(line).matches();
        if (!whole && closed) {
            return zero(line, line.length(), line.length());
        }
        return zero(line, line.length(), whole ? -2 : -1);
    }

    /** A weight of 0 within the first signs is a fault ahead of another one. */
    private static int zero(String line, int upTo, int otherwise) {
        int d = 0;
        while (d < upTo && d < 3 && Character.isDigit(line.charAt(d))) {
            d++;
        }
        return d > 0 && Integer.parseInt(line.substring(0, d)) == 0 ? d - 1 : otherwise;
    }

    public int town() {
        String s = takeText();
        if (s.isEmpty()) {
            return 0;
        }
        String seen = s.length() > 76 ? s.substring(0, 76) : s;
        String[] lines = seen.split(";", -1);
        int at = 0;
        for (int k = 0; k < lines.length; k++) {
            if (n() + k >= 8) {
                return -1 - at;
            }
            int fault = lineFault(lines[k], true);
            if (fault >= 0) {
                return -1 - (at + fault);
            }
            at += lines[k].length() + 1;
        }
        if (s.length() > 76) {
            return -1 - 76;
        }
        for (String line : lines) {
            String digits = line.split("[*+-]")[0];
            Citizen c = new Citizen();
            c.weight = Integer.parseInt(digits);
            world.people.add(c);
            int star = line.indexOf('*');
            parties.add(star < 0 ? 0 : line.charAt(star + 1) - '0');
            ills.add(0);
            habits.add(changes(line.substring(star < 0 ? digits.length() : star + 2)));
        }
        undo.clear();
        return lines.length;
    }

    private static List<Integer> changes(String s) {
        List<Integer> l = new ArrayList<>();
        for (int k = 0; k < s.length(); k += 2) {
            l.add(Integer.parseInt(s.substring(k, k + 2)));
        }
        return l;
    }

    private static int willFault(String s) {
        boolean operand = true;
        int digits = 0;
        ArrayDeque<Boolean> compared = new ArrayDeque<>();
        compared.push(false);
        for (int k = 0; k < s.length() && k < 40; k++) {
            char c = s.charAt(k);
            if (operand) {
                if (c == '-') {
                    continue;
                }
                if (c == '(' && compared.size() <= 4) {
                    compared.push(false);
                } else if (c >= '0' && c <= '9') {
                    operand = false;
                    digits = 1;
                } else if ("iwpvqstno".indexOf(c) >= 0) {
                    operand = false;
                    digits = 3;
                } else {
                    return k;
                }
            } else if (c >= '0' && c <= '9' && digits < 3) {
                digits++;
            } else if ("+-*/".indexOf(c) >= 0) {
                operand = true;
            } else if ("<>=".indexOf(c) >= 0 && !compared.peek()) {
                compared.pop();
                compared.push(true);
                operand = true;
            } else if (c == ')' && compared.size() > 1) {
                compared.pop();
                digits = 3;
            } else {
                return k;
            }
        }
        if (s.length() > 40) {
            return 40;
        }
        return operand || compared.size() > 1 ? s.length() : -1;
    }

    public int will() {
        String s = takeText();
        if (s.isEmpty()) {
            will = null;
            return 0;
        }
        int fault = willFault(s);
        if (fault >= 0) {
            return -1 - fault;
        }
        will = part(s);
        return 0;
    }

    /** The last outermost operator of a kind, or -1. */
    private static int split(String s, String kind) {
        int depth = 0;
        for (int k = s.length() - 1; k > 0; k--) {
            char c = s.charAt(k);
            depth += c == ')' ? 1 : c == '(' ? -1 : 0;
            boolean binary = Character.isLetterOrDigit(s.charAt(k - 1)) || s.charAt(k - 1) == ')';
            if (depth == 0 && binary && kind.indexOf(c) >= 0) {
                return k;
            }
        }
        return -1;
    }

    private Part part(String s) {
        for (String kind : new String[] {"<>=", "+-", "*/"}) {
            int k = split(s, kind);
            if (k > 0) {
                return both(part(s.substring(0, k)), s.charAt(k), part(s.substring(k + 1)));
            }
        }
        if (s.charAt(0) == '-') {
            Part inner = part(s.substring(1));
            return (w, p) -> -inner.of(w, p);
        }
        if (s.charAt(0) == '(') {
            return part(s.substring(1, s.length() - 1));
        }
        if (Character.isDigit(s.charAt(0))) {
            int v = Integer.parseInt(s);
            return (w, p) -> v;
        }
        char c = s.charAt(0);
        return (w, p) -> fact(w, p, c);
    }

    private int fact(World w, int p, char c) {
        switch (c) {
            case 'i': return p;
            case 'w': return w.people.get(p).weight;
            case 'p': return parties.get(p);
            case 'v': return w.server < 0 ? 0 : w.people.get(w.server).weight;
            case 'q': return w.server < 0 ? -1 : parties.get(w.server);
            case 's': return w.server < 0 ? 0 : w.since;
            case 't': return w.holding();
            case 'n': return w.week();
            case 'o': return w.people.get(p).served;
            default: throw new IllegalStateException();
        }
    }

    private static Part both(Part a, char c, Part b) {
        switch (c) {
            case '<': return (w, p) -> a.of(w, p) < b.of(w, p) ? 1 : 0;
            case '>': return (w, p) -> a.of(w, p) > b.of(w, p) ? 1 : 0;
            case '=': return (w, p) -> a.of(w, p) == b.of(w, p) ? 1 : 0;
            case '+': return (w, p) -> a.of(w, p) + b.of(w, p);
            case '-': return (w, p) -> a.of(w, p) - b.of(w, p);
            case '*': return (w, p) -> a.of(w, p) * b.of(w, p);
            default: return (w, p) -> b.of(w, p) == 0 ? 0 : a.of(w, p) / b.of(w, p);
        }
    }

    public int habit(int person) {
        String s = takeText();
        if (!is(person)) {
            return -100;
        }
        for (int k = 0; k < s.length(); k++) {
            boolean good = k < 12 && (k % 2 == 0 ? "+-" : "0123456789").indexOf(s.charAt(k)) >= 0;
            if (!good) {
                return -1 - k;
            }
        }
        if (s.length() % 2 != 0) {
            return -1 - s.length();
        }
        habits.set(person, changes(s));
        return s.length() / 2;
    }

    public int of(int person, int what) {
        if (!is(person) || what < 0 || what > 7) {
            throw new NoSuchElementException();
        }
        Citizen c = world.people.get(person);
        return new int[] {c.weight, parties.get(person), ills.get(person), c.alive ? 1 : 0, c.served, shows(world, person),
            will == null ? 1 : will.of(world, person), habits.get(person).size()}[what];
    }

    public int change(int person, int k) {
        if (!is(person) || k < 0 || k >= habits.get(person).size()) {
            throw new NoSuchElementException();
        }
        return habits.get(person).get(k);
    }

    public int set(int what, int person, int v) {
        if (!is(person)) {
            return -1;
        }
        if (what == 0 && v >= 1 && v <= 999) {
            int was = world.people.get(person).weight;
            world.people.get(person).weight = v;
            return was;
        }
        if (what == 1 && v >= 0 && v <= 3) {
            return parties.set(person, v);
        }
        if (what == 2 && v >= 0 && v <= 9) {
            return ills.set(person, v);
        }
        return -1;
    }

    public boolean scale(int what, int v) {
        if (what == 0 && v >= 1 && v <= 9) {
            grain = v;
            return true;
        }
        if (what == 1 && Math.abs((long) v) <= 9) {
            off = v;
            return true;
        }
        return false;
    }

    public int sheet(int kind, int n, int f, int step) {
        if (kind < 0 || kind > 3 || n > 8) {
            return -1;
        }
        if (kind < 3 && n < 0) {
            return -2;
        }
        int sum = 0;
        int value = f;
        for (int p = 0; p < n(); p++) {
            int v = 1;
            if (kind < 3 && p < n) {
                v = kind == 0 ? (byte) value : kind == 1 ? (short) value : value;
                v = v < 1 ? 1 : Math.min(v, 999);
            }
            value += step;
            world.people.get(p).weight = v;
            sum += v;
        }
        return kind == 3 ? -3 : sum;
    }

    // ---- weeks

    public int stand(int those) {
        for (int b : bits(those)) {
            if (!is(b)) {
                return -2;
            }
        }
        remember(world.copy());
        int before = world.server;
        int fell = week(world, bits(those));
        tell(world.server != before ? 1 : 0, fell);
        return world.server;
    }

    public int weeks(int n) {
        if (n < 0 || n > 99) {
            return -1;
        }
        if (n > 0) {
            remember(world.copy());
        }
        int others = 0;
        int fell = 0;
        for (int k = 0; k < n; k++) {
            int before = world.server;
            fell += willWeek(world);
            others += world.server != before ? 1 : 0;
        }
        tell(world.server, fell);
        return others;
    }

    public int year() {
        String s = takeText();
        String seen = s.length() > 60 ? s.substring(0, 60) : s;
        for (int k = 0; k < seen.length(); k++) {
            char c = seen.charAt(k);
            boolean good = c == ';' || c >= 'a' && c <= 'h' && (k == 0 || seen.charAt(k - 1) == ';' || seen.charAt(k - 1) < c);
            if (!good) {
                return -1 - k;
            }
        }
        if (s.length() > 60) {
            return -61;
        }
        int gone = 0;
        int missing = 0;
        World before = world.copy();
        for (String w : s.isEmpty() ? new String[0] : s.split(";", -1)) {
            Set<Integer> those = new HashSet<>();
            for (char c : w.toCharArray()) {
                those.add(c - 'a');
                missing = is(c - 'a') ? missing : 1;
            }
            if (missing == 1) {
                break;
            }
            week(world, those);
            gone++;
        }
        if (gone > 0) {
            remember(before);
        }
        tell(world.server, missing);
        return gone;
    }

    public int law() {
        if (world.server < 0) {
            return -2;
        }
        if (world.laws.size() == 12) {
            return -3;
        }
        remember(world.copy());
        Law l = new Law();
        l.maker = world.server;
        l.made = world.week();
        world.laws.add(l);
        return world.laws.size() - 1;
    }

    public int laws(int law, int what) {
        if (law < 0 || law >= world.laws.size() || what < 0 || what > 3) {
            throw new NoSuchElementException();
        }
        Law l = world.laws.get(law);
        return new int[] {l.maker, l.made, l.fell < 0 ? 1 : 0, l.fell}[what];
    }

    public int feed(int person, int n) {
        if (!lives(person) || n < 1 || n > 99) {
            return -1;
        }
        remember(world.copy());
        Citizen c = world.people.get(person);
        c.weight = Math.min(999, c.weight + n);
        return c.weight;
    }

    public int fast(int person, int n) {
        if (!lives(person) || n < 1 || n > 99) {
            return -1;
        }
        remember(world.copy());
        Citizen c = world.people.get(person);
        c.weight = Math.max(1, c.weight - n);
        return c.weight;
    }

    public int dies(int person) {
        if (!lives(person)) {
            return -1;
        }
        remember(world.copy());
        world.people.get(person).alive = false;
        if (world.server == person) {
            world.server = -1;
            world.since = 0;
        }
        return world.fallen(person);
    }

    public int undo() {
        if (undo.isEmpty()) {
            return -1;
        }
        world = undo.removeLast();
        return undo.size();
    }

    public int served(int week) {
        if (week < 0 || week >= world.week() || week < world.week() - 60) {
            return -2;
        }
        return world.servers.get(week);
    }

    // ---- weeks to come

    private boolean weeksIn(int n) {
        return n >= 0 && n <= 99;
    }

    public int later(int person, int n) {
        if (!lives(person) || !weeksIn(n)) {
            return -1;
        }
        World w = world.copy();
        for (int k = 0; k < n; k++) {
            week(w, Set.of());
        }
        return w.people.get(person).weight;
    }

    private int gain(World w, int person) {
        return w.people.get(person).served - world.people.get(person).served;
    }

    private int gainOf(World w, int party) {
        int g = 0;
        for (int p = 0; p < n(); p++) {
            g += parties.get(p) == party ? gain(w, p) : 0;
        }
        return g;
    }

    private World ahead(int n) {
        return ahead(n, p -> true);
    }

    private World ahead(int n, IntPredicate asked) {
        World w = world.copy();
        for (int k = 0; k < n; k++) {
            willWeek(w, asked);
        }
        return w;
    }

    public int then(int n) {
        if (!weeksIn(n)) {
            return -2;
        }
        World w = ahead(n);
        long[] gains = new long[n()];
        for (int p = 0; p < n(); p++) {
            gains[p] = gain(w, p);
        }
        tell(gains);
        return w.server;
    }

    public int soonest(int person) {
        if (!is(person)) {
            return -1;
        }
        if (world.server == person) {
            return -3;
        }
        for (int n = 1; n <= 99; n++) {
            if (ahead(n).server == person) {
                return n;
            }
        }
        return -2;
    }

    public int ever(int n) {
        if (n < 0 || n > 12) {
            return -1;
        }
        Set<Integer> reach = new HashSet<>(List.of(world.server));
        int all = 0;
        int last = 0;
        World w = world.copy();
        for (int k = 0; k < n; k++) {
            Set<Integer> next = new HashSet<>();
            for (int server : reach) {
                for (int those = 0; those < 1 << n(); those++) {
                    World one = w.copy();
                    one.server = server;
                    week(one, bits(those));
                    next.add(one.server);
                }
            }
            reach = next;
            last = 0;
            for (int server : reach) {
                last |= server < 0 ? 0 : 1 << server;
            }
            all |= last;
            week(w, Set.of());
        }
        tell(last);
        return all;
    }

    public int most(int person, int n) {
        if (!lives(person) || n < 0 || n > 10) {
            return -1;
        }
        int best = -1;
        int bestPlan = 0;
        for (int plan = 0; plan < 1 << n; plan++) {
            World w = world.copy();
            for (int k = 0; k < n; k++) {
                Set<Integer> those = willing(w, p -> p != person);
                if ((plan >> k & 1) != 0) {
                    those.add(person);
                }
                week(w, those);
            }
            int g = gain(w, person);
            if (g > best || g == best && Integer.bitCount(plan) < Integer.bitCount(bestPlan)) {
                best = g;
                bestPlan = plan;
            }
        }
        tell(bestPlan);
        return best;
    }

    private int gainByPlans(int person, int[] plans, int n) {
        World w = world.copy();
        for (int k = 0; k < n; k++) {
            Set<Integer> those = new HashSet<>();
            for (int p = 0; p < n(); p++) {
                if ((plans[p] >> k & 1) != 0) {
                    those.add(p);
                }
            }
            week(w, those);
        }
        return gain(w, person);
    }

    public int rests(int n, int m) {
        if (n < 1 || n > 4 || m < 0 || m > 20) {
            return -1;
        }
        int[] plans = new int[n()];
        Arrays.fill(plans, (1 << n) - 1);
        int rounds = 0;
        boolean rested = false;
        while (rounds < m && !rested) {
            rounds++;
            int[] before = plans.clone();
            for (int p = 0; p < n(); p++) {
                if (!lives(p)) {
                    continue;
                }
                int own = plans[p];
                int[] gains = new int[1 << n];
                int max = 0;
                for (int plan = 0; plan < 1 << n; plan++) {
                    plans[p] = plan;
                    gains[plan] = gainByPlans(p, plans, n);
                    max = Math.max(max, gains[plan]);
                }
                plans[p] = own;
                for (int plan = 0; gains[own] != max && plan < 1 << n; plan++) {
                    if (gains[plan] == max) {
                        plans[p] = plan;
                        break;
                    }
                }
            }
            rested = Arrays.equals(before, plans);
        }
        long[] numbers = new long[n() + 1];
        numbers[0] = rested ? 1 : 0;
        for (int p = 0; p < n(); p++) {
            numbers[p + 1] = plans[p];
        }
        tell(numbers);
        return rounds;
    }

    public int party(int n) {
        if (!weeksIn(n)) {
            return -2;
        }
        World w = ahead(n);
        int best = -1;
        int most = 0;
        long[] numbers = new long[5];
        for (int party = 0; party < 4; party++) {
            numbers[party] = gainOf(w, party);
            if (numbers[party] > most) {
                most = (int) numbers[party];
                best = party;
            }
        }
        for (int p = 0; p < n(); p++) {
            numbers[4] += gain(w, p) > 0 ? 1 << p : 0;
        }
        tell(numbers);
        return best;
    }

    public int byTurns(int party, int n) {
        if (party < 0 || party > 3 || !weeksIn(n)) {
            return -1;
        }
        List<Integer> members = new ArrayList<>();
        for (int p = 0; p < n(); p++) {
            if (parties.get(p) == party && lives(p)) {
                members.add(p);
            }
        }
        World w = world.copy();
        for (int k = 0; k < n; k++) {
            Set<Integer> those = willing(w, p -> parties.get(p) != party);
            if (!members.isEmpty()) {
                those.add(members.get(k % members.size()));
            }
            week(w, those);
        }
        int g = gainOf(w, party);
        tell(g - gainOf(ahead(n), party));
        return g;
    }

    public int fool(int person, int n) {
        if (!is(person) || !weeksIn(n)) {
            throw new NoSuchElementException();
        }
        int with = gainOf(ahead(n), parties.get(person));
        int without = gainOf(ahead(n, p -> p != person), parties.get(person));
        tell(with, without);
        return with - without;
    }

    // ---- cakes

    private int fewest(int person, int step, BiPredicate<World, Integer> good) {
        for (int cakes = 0; cakes <= 999; cakes++) {
            World w = world.copy();
            Citizen c = w.people.get(person);
            c.weight = Math.max(1, Math.min(999, c.weight + step * cakes));
            if (good.test(w, cakes)) {
                return cakes;
            }
        }
        return -2;
    }

    public int hold(int n) {
        if (n < 0 || n > 60) {
            return -1;
        }
        if (world.server < 0) {
            return -3;
        }
        int server = world.server;
        return fewest(server, 1, (w, cakes) -> {
            for (int k = 0; k < n; k++) {
                willWeek(w);
            }
            return gain(w, server) == n;
        });
    }

    public int bribe(int person, int n) {
        if (!lives(person) || n < 1 || n > 60) {
            return -1;
        }
        return fewest(person, 1, (w, cakes) -> {
            for (int k = 0; k < n; k++) {
                willWeek(w);
            }
            if (w.server == person) {
                tell(gain(w, person));
            }
            return w.server == person;
        });
    }

    public int starve(int person, int n) {
        if (!lives(person) || n < 0 || n > 60) {
            return -1;
        }
        return fewest(person, -1, (w, cakes) -> {
            for (int k = 0; k < n; k++) {
                willWeek(w);
            }
            return gain(w, person) == 0;
        });
    }

    public int cheapest() {
        int best = -2;
        int least = 1000;
        for (int person = 0; person < n(); person++) {
            int one = person;
            if (!lives(one)) {
                continue;
            }
            int cakes = fewest(one, 1, (w, c) -> {
                Set<Integer> those = willing(w, p -> p != one);
                those.add(one);
                week(w, those);
                return w.server == one;
            });
            if (cakes >= 0 && cakes < least) {
                best = one;
                least = cakes;
            }
        }
        if (best >= 0) {
            tell(least);
        }
        return best;
    }

    // ---- the scale

    public int weighed(int person, int v) {
        if (!is(person) || v < 0 || v > 1010 || weighings.size() == 12) {
            return -1;
        }
        weighings.add(new int[] {person, v});
        return weighings.size();
    }

    public int forget() {
        if (weighings.isEmpty()) {
            return -1;
        }
        weighings.remove(weighings.size() - 1);
        return weighings.size();
    }

    private List<Integer> weights(int person, int grain) {
        List<Integer> l = new ArrayList<>();
        for (int weight = 1; weight <= 999; weight++) {
            boolean good = true;
            for (int[] w : weighings) {
                good &= w[0] != person || w[1] == shows(weight, grain, off);
            }
            if (good) {
                l.add(weight);
            }
        }
        return l;
    }

    private void range(List<Integer> l) {
        if (l.isEmpty()) {
            tell();
        } else {
            tell(l.get(0), l.get(l.size() - 1));
        }
    }

    public int grains() {
        int those = 0;
        for (int g = 1; g <= 9; g++) {
            boolean good = true;
            for (int p = 0; p < n(); p++) {
                good &= !weights(p, g).isEmpty();
            }
            those |= good ? 1 << g : 0;
        }
        return those;
    }

    public int span(int person) {
        if (!is(person)) {
            return -1;
        }
        List<Integer> l = weights(person, grain);
        range(l);
        return l.size();
    }

    private int misfits(int off) {
        int those = 0;
        for (int[] w : weighings) {
            those |= shows(world.people.get(w[0]).weight, grain, off) != w[1] ? 1 << w[0] : 0;
        }
        return those;
    }

    public int offs() {
        List<Integer> l = new ArrayList<>();
        for (int o = -9; o <= 9; o++) {
            if (misfits(o) == 0) {
                l.add(o);
            }
        }
        range(l);
        return l.size();
    }

    public int cheats() {
        for (int few = 0; few <= 8; few++) {
            for (int o = -9; o <= 9; o++) {
                if (Integer.bitCount(misfits(o)) == few) {
                    tell(misfits(o), o);
                    return few;
                }
            }
        }
        throw new IllegalStateException();
    }

    // ---- dates

    public int told(int person, int n) {
        if (!is(person) || n < 1 || n > 60 || tellings.size() == 10) {
            return -1;
        }
        tellings.add(new int[] {person, n});
        return tellings.size();
    }

    public int wipe() {
        int were = tellings.size();
        tellings.clear();
        return were;
    }

    private boolean allSo(World from, IntPredicate asked) {
        World w = from.copy();
        int now = w.week();
        for (int k = 0; k < 60 && !tellings.isEmpty(); k++) {
            willWeek(w, asked);
        }
        for (int[] t : tellings) {
            if (w.servers.get(now + t[1] - 1) != t[0]) {
                return false;
            }
        }
        return true;
    }

    public int explains(int person) {
        if (!lives(person)) {
            return -1;
        }
        List<Integer> l = new ArrayList<>();
        for (int weight = 1; weight <= 999; weight++) {
            World w = world.copy();
            w.people.get(person).weight = weight;
            if (allSo(w, p -> true)) {
                l.add(weight);
            }
        }
        range(l);
        return l.size();
    }

    public int absent() {
        int those = 0;
        for (int person = 0; person < n(); person++) {
            int one = person;
            those |= lives(one) && allSo(world, p -> p != one) ? 1 << one : 0;
        }
        tell(allSo(world, p -> true) ? 1 : 0);
        return those;
    }

    // ---- twins and odds

    public int twin(int person) {
        if (!lives(person) || n() == 8) {
            return -1;
        }
        Citizen c = new Citizen();
        c.weight = world.people.get(person).weight;
        world.people.add(c);
        parties.add(parties.get(person));
        ills.add(ills.get(person));
        habits.add(new ArrayList<>(habits.get(person)));
        undo.clear();
        return n() - 1;
    }

    /** The chance of those that test, in 10 to the power of 8 times the weeks. */
    private BigInteger chance(World w, int weeks, int person) {
        if (weeks == 0) {
            return w.server == person ? BigInteger.ONE : BigInteger.ZERO;
        }
        List<Integer> able = new ArrayList<>();
        for (int p : willing(w, q -> true)) {
            if (w.people.get(p).alive && p != w.server) {
                able.add(p);
            }
        }
        BigInteger sum = BigInteger.ZERO;
        for (int well = 0; well < 1 << able.size(); well++) {
            long share = 100000000;
            Set<Integer> those = new HashSet<>();
            for (int k = 0; k < able.size(); k++) {
                int ill = ills.get(able.get(k));
                boolean stands = (well >> k & 1) != 0;
                share = share / 10 * (stands ? 10 - ill : ill);
                if (stands) {
                    those.add(able.get(k));
                }
            }
            if (share > 0) {
                World next = w.copy();
                week(next, those);
                sum = sum.add(chance(next, weeks - 1, person).multiply(BigInteger.valueOf(share)));
            }
        }
        return sum;
    }

    private void fraction(BigInteger upper, int weeks) {
        BigInteger lower = BigInteger.TEN.pow(8 * weeks);
        BigInteger g = upper.gcd(lower);
        tell(upper.divide(g).longValueExact(), lower.divide(g).longValueExact());
    }

    public int odds(int person, int n) {
        if (!is(person) || n < 0 || n > 2) {
            return -1;
        }
        fraction(chance(world, n, person), n);
        return 0;
    }

    public int likely() {
        int best = -1;
        BigInteger most = chance(world, 1, -1);
        for (int p = 0; p < n(); p++) {
            BigInteger c = chance(world, 1, p);
            if (c.compareTo(most) > 0) {
                best = p;
                most = c;
            }
        }
        fraction(most, 1);
        return best;
    }

    // ---- kept

    public boolean keep(int i) {
        if (i < 0 || i > 2) {
            return false;
        }
        kept[i] = world.copy();
        return true;
    }

    public boolean again(int i) {
        if (i < 0 || i > 2 || kept[i] == null || kept[i].people.size() != n()) {
            return false;
        }
        world = kept[i].copy();
        undo.clear();
        return true;
    }

    public int count(int what) {
        int holds = 0;
        for (int k = 0; k < world.laws.size(); k++) {
            holds |= world.laws.get(k).fell < 0 ? 1 << k : 0;
        }
        int alive = 0;
        for (int p = 0; p < n(); p++) {
            alive |= lives(p) ? 1 << p : 0;
        }
        int[] all = {n(), world.week(), world.server, world.since, world.laws.size(), holds, alive, undo.size(),
            weighings.size(), tellings.size(), row.size(), text.length(), grain, off};
        return what < 0 || what >= all.length ? -100 : all[what];
    }

    public long row(int i) {
        if (i < 0 || i >= row.size()) {
            throw new NoSuchElementException();
        }
        return row.get(i);
    }
}
