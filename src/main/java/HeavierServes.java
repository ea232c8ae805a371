import java.util.NoSuchElementException;

/**
 * An office that one holds till someone heavier stands, and laws that fall with who made them.
 * The words in capitals are those of the document.
 */
public final class HeavierServes {
    public static final int NONE = -1;

    private static final int PEOPLE_MOST = 8;
    private static final int EVERYONE = 255;
    private static final int PARTIES = 4;
    private static final int WEIGHT_MOST = 999;
    private static final int CHANGES_MOST = 6;
    private static final int LAWS_MOST = 12;
    private static final int WEEKS_KNOWN = 60;
    private static final int WEEKS_ON = 99;
    private static final int WEEKS_FED = 60;
    private static final int YEAR_SIGNS = 60;
    private static final int CAKES_MOST = 999;
    private static final int MEAL_MOST = 99;
    private static final int SHOWN_MOST = 1010;
    private static final int GRAIN_MOST = 9;
    private static final int OFF_MOST = 9;
    private static final int ILL_MOST = 9;
    private static final int WEIGHINGS_MOST = 12;
    private static final int TELLINGS_MOST = 10;

    private final Text text = new Text();
    private final Row row = new Row();
    private final Town town = new Town();
    private final Will will = new Will();
    private final Scale scale = new Scale();
    private final State now = new State();
    private final Past past = new Past();
    private final Pairs weighings = new Pairs(WEIGHINGS_MOST);
    private final Pairs tellings = new Pairs(TELLINGS_MOST);
    private final Office office = new Office(town, will, scale);
    private final Future future = new Future(now, town, office, row);
    private final Trials trials = new Trials(now, town, office, row);

    public HeavierServes() {
    }

    // ---- the town

    public int sign(int v) {
        return text.append(v) ? text.length : NONE;
    }

    public boolean end(int n) {
        if (n < 0 || n > text.length) {
            return false;
        }
        text.length = n;
        return true;
    }

    public int town() {
        if (text.length == 0) {
            return 0;
        }
        int fault = town.readLines(text);
        text.length = 0;
        if (fault != NONE) {
            return -1 - fault;
        }
        int lines = town.lines;
        for (int k = 0; k < lines; k++) {
            now.welcome(town.people, town.arriving(town.people));
            town.countOneMore();
        }
        past.forgetSteps();
        return lines;
    }

    public int will() {
        int fault = will.read(text);
        text.length = 0;
        return fault == NONE ? 0 : -1 - fault;
    }

    public int habit(int person) {
        if (!town.has(person)) {
            text.length = 0;
            return -100;
        }
        int fault = town.readHabit(text, person);
        text.length = 0;
        return fault == NONE ? town.habitLength[person] : -1 - fault;
    }

    public int of(int person, int what) throws NoSuchElementException {
        if (!town.has(person)) {
            throw new NoSuchElementException();
        }
        switch (what) {
            case 0: return now.weight[person];
            case 1: return town.party[person];
            case 2: return town.ill[person];
            case 3: return now.lives(person) ? 1 : 0;
            case 4: return now.weeksServed[person];
            case 5: return scale.shows(now.weight[person]);
            case 6: return will.value(now, town, person);
            case 7: return town.habitLength[person];
            default: throw new NoSuchElementException();
        }
    }

    public int change(int person, int k) throws NoSuchElementException {
        if (!town.has(person) || k < 0 || k >= town.habitLength[person]) {
            throw new NoSuchElementException();
        }
        return town.changeAt(person, k);
    }

    public int set(int what, int person, int v) {
        if (!town.has(person) || v < 0) {
            return NONE;
        }
        if (what == 0 && v >= 1 && v <= WEIGHT_MOST) {
            return exchange(now.weight, person, v);
        }
        if (what == 1 && v < PARTIES) {
            return exchange(town.party, person, v);
        }
        if (what == 2 && v <= ILL_MOST) {
            return exchange(town.ill, person, v);
        }
        return NONE;
    }

    public boolean scale(int what, int v) {
        if (what == 0 && v >= 1 && v <= GRAIN_MOST) {
            scale.grain = v;
            return true;
        }
        if (what == 1 && v >= -OFF_MOST && v <= OFF_MOST) {
            scale.off = v;
            return true;
        }
        return false;
    }

    public int sheet(int kind, int n, int f, int step) {
        if (kind < 0 || kind > 3 || n > PEOPLE_MOST) {
            return NONE;
        }
        if (kind != 3 && n < 0) {
            return -2;
        }
        int entries = kind == 3 ? 0 : n;
        int sum = 0;
        for (int person = 0; person < town.people; person++) {
            int entry = person < entries ? asKind(kind, f + person * step) : 1;
            now.putWeight(person, entry);
            sum += now.weight[person];
        }
        return kind == 3 ? -3 : sum;
    }

    // ---- weeks

    public int stand(int those) {
        if ((those & ~town.everyone()) != 0) {
            return -2;
        }
        past.remember(now);
        int fell = passWeek(those, 0);
        row.begin(fell == NONE ? 0 : 1);
        row.add(Math.max(fell, 0));
        return now.server;
    }

    public int weeks(int n) {
        if (n < 0 || n > WEEKS_ON) {
            return NONE;
        }
        if (n > 0) {
            past.remember(now);
        }
        int others = 0;
        int fallen = 0;
        for (int k = 0; k < n; k++) {
            int fell = passWeek(0, EVERYONE);
            if (fell != NONE) {
                others++;
                fallen += fell;
            }
        }
        row.begin(now.server);
        row.add(fallen);
        return others;
    }

    public int year() {
        text.open(YEAR_SIGNS);
        int fault = yearFault();
        int gone = fault == NONE ? passYear() : -1 - fault;
        text.length = 0;
        return gone;
    }

    public int law() {
        if (now.server == NONE) {
            return -2;
        }
        if (now.lawsMade >= LAWS_MOST) {
            return -3;
        }
        past.remember(now);
        return now.makeLaw();
    }

    public int laws(int law, int what) throws NoSuchElementException {
        if (law < 0 || law >= now.lawsMade) {
            throw new NoSuchElementException();
        }
        switch (what) {
            case 0: return now.maker[law];
            case 1: return now.madeIn[law];
            case 2: return now.holds >> law & 1;
            case 3: return now.fellIn[law];
            default: throw new NoSuchElementException();
        }
    }

    public int feed(int person, int n) {
        return eat(person, n, 1);
    }

    public int fast(int person, int n) {
        return eat(person, n, -1);
    }

    public int dies(int person) {
        if (!isThere(person)) {
            return NONE;
        }
        past.remember(now);
        return now.bury(person);
    }

    public int undo() {
        return past.stepBack(now) ? past.steps : NONE;
    }

    public int served(int week) {
        if (week < 0 || week >= now.week || week < now.week - WEEKS_KNOWN) {
            return -2;
        }
        return now.history[week % WEEKS_KNOWN];
    }

    // ---- weeks to come

    public int later(int person, int n) {
        if (!isThere(person) || n < 0 || n > WEEKS_ON) {
            return NONE;
        }
        return town.weightLater(now, person, n);
    }

    public int then(int n) {
        return n < 0 || n > WEEKS_ON ? -2 : future.serverThen(n);
    }

    public int soonest(int person) {
        if (!town.has(person)) {
            return NONE;
        }
        return now.server == person ? -3 : future.weeksTill(person);
    }

    public int ever(int n) {
        return n < 0 || n > 12 ? NONE : future.reachable(n);
    }

    public int most(int person, int n) {
        return !isThere(person) || n < 0 || n > Future.CHOICES_MOST ? NONE : future.bestStanding(person, n);
    }

    public int rests(int n, int m) {
        return n < 1 || n > 4 || m < 0 || m > 20 ? NONE : future.rounds(n, m);
    }

    public int party(int n) {
        return n < 0 || n > WEEKS_ON ? -2 : future.strongestParty(n);
    }

    public int byTurns(int party, int n) {
        return party < 0 || party >= PARTIES || n < 0 || n > WEEKS_ON ? NONE : future.takingTurns(party, n);
    }

    public int fool(int person, int n) throws NoSuchElementException {
        if (!town.has(person) || n < 0 || n > WEEKS_ON) {
            throw new NoSuchElementException();
        }
        return future.foolsWorth(person, n);
    }

    // ---- cakes

    public int hold(int n) {
        if (n < 0 || n > WEEKS_FED) {
            return NONE;
        }
        return now.server == NONE ? -3 : trials.cakesToStay(now.server, n);
    }

    public int bribe(int person, int n) {
        return !isThere(person) || n < 1 || n > WEEKS_FED ? NONE : trials.cakesToServe(person, n);
    }

    public int starve(int person, int n) {
        return !isThere(person) || n < 0 || n > WEEKS_FED ? NONE : trials.ouncesToMiss(person, n);
    }

    public int cheapest() {
        return trials.leastFed();
    }

    // ---- the scale

    public int weighed(int person, int v) {
        return !town.has(person) || v < 0 || v > SHOWN_MOST ? NONE : weighings.append(person, v);
    }

    public int forget() {
        if (weighings.size == 0) {
            return NONE;
        }
        weighings.size--;
        return weighings.size;
    }

    public int grains() {
        return scale.possibleGrains(weighings, town.people);
    }

    public int span(int person) {
        if (!town.has(person)) {
            return NONE;
        }
        int weights = scale.narrow(weighings, person, scale.grain);
        row.range(weights, scale.least, scale.greatest);
        return weights;
    }

    public int offs() {
        int fitting = 0;
        int least = 0;
        int greatest = 0;
        for (int off = -OFF_MOST; off <= OFF_MOST; off++) {
            if (scale.misfits(weighings, now.weight, off) == 0) {
                least = fitting == 0 ? off : least;
                greatest = off;
                fitting++;
            }
        }
        row.range(fitting, least, greatest);
        return fitting;
    }

    public int cheats() {
        int fewest = PEOPLE_MOST + 1;
        int those = 0;
        int best = 0;
        for (int off = -OFF_MOST; off <= OFF_MOST; off++) {
            int misfits = scale.misfits(weighings, now.weight, off);
            if (Integer.bitCount(misfits) < fewest) {
                fewest = Integer.bitCount(misfits);
                those = misfits;
                best = off;
            }
        }
        row.begin(those);
        row.add(best);
        return fewest;
    }

    // ---- dates

    public int told(int person, int n) {
        return !town.has(person) || n < 1 || n > WEEKS_FED ? NONE : tellings.append(person, n);
    }

    public int wipe() {
        int were = tellings.size;
        tellings.size = 0;
        return were;
    }

    public int explains(int person) {
        return isThere(person) ? trials.explainingWeights(tellings, person) : NONE;
    }

    public int absent() {
        return trials.explainingAbsences(tellings);
    }

    // ---- twins and odds

    public int twin(int person) {
        if (!isThere(person) || town.people >= PEOPLE_MOST) {
            return NONE;
        }
        int twin = town.people;
        town.copyPerson(person, twin);
        now.welcome(twin, now.weight[person]);
        town.countOneMore();
        past.forgetSteps();
        return twin;
    }

    public int odds(int person, int n) {
        if (!town.has(person) || n < 0 || n > 2) {
            return NONE;
        }
        future.tellChance(person, n);
        return 0;
    }

    public int likely() {
        return future.likeliest();
    }

    // ---- kept

    public boolean keep(int i) {
        return past.keepAside(i, now, town.people);
    }

    public boolean again(int i) {
        return past.takeAgain(i, now, town.people);
    }

    public int count(int what) {
        switch (what) {
            case 0: return town.people;
            case 1: return now.week;
            case 2: return now.server;
            case 3: return now.since;
            case 4: return now.lawsMade;
            case 5: return now.holds;
            case 6: return now.alive;
            case 7: return past.steps;
            case 8: return weighings.size;
            case 9: return tellings.size;
            case 10: return row.size;
            case 11: return text.length;
            case 12: return scale.grain;
            case 13: return scale.off;
            default: return -100;
        }
    }

    public long row(int i) throws NoSuchElementException {
        if (i < 0 || i >= row.size || i >= row.numbers.length) {
            throw new NoSuchElementException();
        }
        return row.numbers[i];
    }

    // ---- inside

    /** One of PEOPLE that is ALIVE. */
    private boolean isThere(int person) {
        return town.has(person) && now.lives(person);
    }

    private static int exchange(int[] of, int person, int v) {
        if (person < 0 || person >= of.length) {
            return NONE;
        }
        int was = of[person];
        of[person] = v;
        return was;
    }

    private static int inBounds(int weight) {
        if (weight < 1) {
            return 1;
        }
        return weight > WEIGHT_MOST ? WEIGHT_MOST : weight;
    }

    private static int asKind(int kind, int v) {
        if (kind == 0) {
            return (byte) v;
        }
        return kind == 1 ? (short) v : v;
    }

    private int eat(int person, int n, int direction) {
        if (!isThere(person) || n < 1 || n > MEAL_MOST) {
            return NONE;
        }
        past.remember(now);
        now.putWeight(person, now.weight[person] + direction * n);
        return now.weight[person];
    }

    /** A WEEK goes by: how many LAWS fell, if another one serves then, else NONE. */
    private int passWeek(int sure, int asked) {
        int before = now.server;
        int held = now.holding;
        office.pass(now, sure, asked);
        return now.server == before ? NONE : held;
    }

    /** Where THE TEXT is no YEAR, or NONE. */
    private int yearFault() {
        int last = 0;
        for (int place = 0; place < text.readable; place++) {
            int sign = text.signAt(place);
            if (sign == ';') {
                last = 0;
            } else if (sign >= 'a' && sign <= 'h' && sign > last) {
                last = sign;
            } else {
                return place;
            }
        }
        return text.readable < text.length ? text.readable : NONE;
    }

    /** The WEEKS of a YEAR without fault go by: how many did. */
    private int passYear() {
        int gone = 0;
        int those = 0;
        int missing = 0;
        int stops = text.readable == 0 ? 0 : text.readable + 1;
        for (int place = 0; place < stops && missing == 0; place++) {
            int sign = text.signAt(place);
            if (sign >= 'a' && sign <= 'h') {
                those |= 1 << (sign - 'a');
            } else if ((those & ~town.everyone()) != 0) {
                missing = 1;
            } else {
                if (gone == 0) {
                    past.remember(now);
                }
                passWeek(those, 0);
                gone++;
                those = 0;
            }
        }
        row.begin(now.server);
        row.add(missing);
        return gone;
    }

    /** THE TEXT, read from its first sign on. */
    private static final class Text {
        private static final int SIGNS_MOST = 80;

        final int[] signs = new int[SIGNS_MOST];
        int length;
        int readable;

        Text() {
        }

        boolean append(int four) {
            if (length < 0 || length > SIGNS_MOST - 4) {
                return false;
            }
            for (int k = 0; k < 4; k++) {
                signs[length + k] = four >>> (24 - 8 * k) & 255;
            }
            length += 4;
            return true;
        }

        /** From now on the signs behind the first of them can't be seen. */
        void open(int most) {
            readable = Math.min(length, most);
        }

        int signAt(int place) {
            return place < 0 || place >= readable || place >= SIGNS_MOST ? NONE : signs[place];
        }

        int digitAt(int place) {
            int sign = signAt(place);
            return sign >= '0' && sign <= '9' ? sign - '0' : NONE;
        }
    }

    /** The ROW. */
    private static final class Row {
        private static final int NUMBERS_MOST = 16;

        final long[] numbers = new long[NUMBERS_MOST];
        int size;

        Row() {
        }

        void begin(long first) {
            size = 0;
            add(first);
        }

        void add(long number) {
            if (size >= 0 && size < NUMBERS_MOST) {
                numbers[size] = number;
                size++;
            }
        }

        /** The least and the greatest of some, if there are some. */
        void range(int some, int least, int greatest) {
            size = 0;
            if (some > 0) {
                add(least);
                add(greatest);
            }
        }

        void fraction(long upper, long lower) {
            long divisor = commonDivisor(upper, lower);
            if (divisor > 0) {
                begin(upper / divisor);
                add(lower / divisor);
            }
        }

        private static long commonDivisor(long a, long b) {
            for (int k = 0; k < 200 && b != 0; k++) {
                long rest = a % b;
                a = b;
                b = rest;
            }
            return a;
        }
    }

    /** What weeks do not change of PEOPLE: how many they are, PARTY, ILL, HABIT. */
    private static final class Town {
        private static final int TOWN_SIGNS = 76;
        private static final int HABIT_SIGNS = 12;
        private static final int DIGITS_MOST = 3;

        final int[] party = new int[PEOPLE_MOST];
        final int[] ill = new int[PEOPLE_MOST];
        final int[] habitLength = new int[PEOPLE_MOST];
        final int[] habits = new int[PEOPLE_MOST * CHANGES_MOST];
        final int[] weightTold = new int[PEOPLE_MOST];
        final int[] draft = new int[CHANGES_MOST];
        int drafted;
        int place;
        int lines;
        int people;

        Town() {
        }

        boolean has(int person) {
            return person >= 0 && person < people && person < PEOPLE_MOST;
        }

        /** People is an end of loops over rows, so that it must not leave them. */
        void countOneMore() {
            if (people >= 0 && people < PEOPLE_MOST) {
                people++;
            }
        }

        int everyone() {
            return (1 << people) - 1;
        }

        int ofParty(int wanted) {
            int those = 0;
            for (int person = 0; person < people; person++) {
                if (party[person] == wanted) {
                    those |= 1 << person;
                }
            }
            return those;
        }

        int arriving(int person) {
            return person < 0 || person >= PEOPLE_MOST ? 1 : weightTold[person];
        }

        int changeAt(int person, int k) {
            int index = person * CHANGES_MOST + k;
            return index < 0 || index >= habits.length ? 0 : habits[index];
        }

        void changeWeights(State s) {
            for (int person = 0; person < people; person++) {
                int length = habitLength[person];
                if (length > 0 && s.lives(person)) {
                    int change = habits[person * CHANGES_MOST + Math.floorMod(s.week, length)];
                    s.weight[person] = inBounds(s.weight[person] + change);
                }
            }
        }

        int weightLater(State s, int person, int weeks) {
            int weight = s.weight[person];
            int length = habitLength[person];
            for (int k = 0; k < weeks && length > 0; k++) {
                weight = inBounds(weight + changeAt(person, Math.floorMod(s.week + k, length)));
            }
            return weight;
        }

        void copyPerson(int from, int to) {
            party[to] = party[from];
            ill[to] = ill[from];
            habitLength[to] = habitLength[from];
            System.arraycopy(habits, from * CHANGES_MOST, habits, to * CHANGES_MOST, CHANGES_MOST);
        }

        /**
         * Reads LINES to the places behind those taken, where nobody sees them before people counts
         * them. NONE, or where the fault is.
         */
        int readLines(Text text) {
            text.open(TOWN_SIGNS);
            place = 0;
            lines = 0;
            for (int person = people; person <= PEOPLE_MOST; person++) {
                if (person == PEOPLE_MOST || !readLine(text, person)) {
                    return place;
                }
                lines++;
                if (text.signAt(place) != ';') {
                    break;
                }
                place++;
            }
            return place < text.length ? place : NONE;
        }

        int readHabit(Text text, int person) {
            text.open(HABIT_SIGNS);
            place = 0;
            if (!readChanges(text) || place < text.length) {
                return place;
            }
            takeDraft(person);
            return NONE;
        }

        private boolean readLine(Text text, int person) {
            if (!readWeight(text, person) || !readParty(text, person) || !readChanges(text)) {
                return false;
            }
            takeDraft(person);
            ill[person] = 0;
            return true;
        }

        private boolean readWeight(Text text, int person) {
            int weight = 0;
            int digits = 0;
            while (digits < DIGITS_MOST && text.digitAt(place) != NONE) {
                weight = weight * 10 + text.digitAt(place);
                place++;
                digits++;
            }
            if (digits > 0 && weight == 0) {
                place--;
            }
            weightTold[person] = weight;
            return weight > 0;
        }

        private boolean readParty(Text text, int person) {
            party[person] = 0;
            if (text.signAt(place) != '*') {
                return true;
            }
            place++;
            int digit = text.digitAt(place);
            if (digit == NONE || digit >= PARTIES) {
                return false;
            }
            party[person] = digit;
            place++;
            return true;
        }

        private boolean readChanges(Text text) {
            drafted = 0;
            for (int k = 0; k < CHANGES_MOST; k++) {
                if (!isChangeSign(text.signAt(place))) {
                    return true;
                }
                int digit = text.digitAt(place + 1);
                if (digit == NONE) {
                    place++;
                    return false;
                }
                draft[k] = text.signAt(place) == '+' ? digit : -digit;
                drafted++;
                place += 2;
            }
            return !isChangeSign(text.signAt(place));
        }

        private static boolean isChangeSign(int sign) {
            return sign == '+' || sign == '-';
        }

        private void takeDraft(int person) {
            habitLength[person] = drafted;
            System.arraycopy(draft, 0, habits, person * CHANGES_MOST, CHANGES_MOST);
        }
    }

    /** THE WILL, kept with each sign behind what it works on. */
    private static final class Will {
        private static final int WILL_SIGNS = 40;
        private static final int DIGITS_MOST = 3;
        private static final int DEPTH_MOST = 4;
        private static final int FACT = 1000;
        private static final int OPERATOR = 2000;
        private static final int NEGATION = 3000;

        final int[] codes = new int[WILL_SIGNS];
        final int[] draft = new int[WILL_SIGNS];
        final int[] stack = new int[WILL_SIGNS];
        int size;
        int drafted;
        int place;

        Will() {
        }

        /** NONE, or where the fault is. */
        int read(Text text) {
            text.open(WILL_SIGNS);
            place = 0;
            drafted = 0;
            if (text.length > 0 && (!readComparison(text, 0) || place < text.length)) {
                return place;
            }
            System.arraycopy(draft, 0, codes, 0, WILL_SIGNS);
            size = drafted;
            return NONE;
        }

        private boolean readComparison(Text text, int depth) {
            boolean good = readSum(text, depth);
            int sign = text.signAt(place);
            if (good && (sign == '<' || sign == '>' || sign == '=')) {
                place++;
                good = readSum(text, depth);
                emit(OPERATOR + sign);
            }
            return good;
        }

        private boolean readSum(Text text, int depth) {
            boolean good = readProduct(text, depth);
            for (int k = 0; k < WILL_SIGNS && good; k++) {
                int sign = text.signAt(place);
                if (sign != '+' && sign != '-') {
                    break;
                }
                place++;
                good = readProduct(text, depth);
                emit(OPERATOR + sign);
            }
            return good;
        }

        private boolean readProduct(Text text, int depth) {
            boolean good = readThing(text, depth);
            for (int k = 0; k < WILL_SIGNS && good; k++) {
                int sign = text.signAt(place);
                if (sign != '*' && sign != '/') {
                    break;
                }
                place++;
                good = readThing(text, depth);
                emit(OPERATOR + sign);
            }
            return good;
        }

        private boolean readThing(Text text, int depth) {
            boolean negative = false;
            for (int k = 0; k < WILL_SIGNS && text.signAt(place) == '-'; k++) {
                negative = !negative;
                place++;
            }
            int sign = text.signAt(place);
            boolean good = true;
            if (sign == '(') {
                good = depth < DEPTH_MOST && readBracket(text, depth);
            } else if (sign >= '0' && sign <= '9') {
                readNumber(text);
            } else if (isFact(sign)) {
                emit(FACT + sign);
                place++;
            } else {
                good = false;
            }
            if (negative) {
                emit(NEGATION);
            }
            return good;
        }

        private boolean readBracket(Text text, int depth) {
            place++;
            if (!readComparison(text, depth + 1) || text.signAt(place) != ')') {
                return false;
            }
            place++;
            return true;
        }

        private void readNumber(Text text) {
            int number = 0;
            for (int k = 0; k < DIGITS_MOST && text.digitAt(place) != NONE; k++) {
                number = number * 10 + text.digitAt(place);
                place++;
            }
            emit(number);
        }

        private void emit(int code) {
            if (drafted >= 0 && drafted < WILL_SIGNS) {
                draft[drafted] = code;
                drafted++;
            }
        }

        private static boolean isFact(int sign) {
            switch (sign) {
                case 'i': case 'w': case 'p': case 'v': case 'q': case 's': case 't': case 'n': case 'o':
                    return true;
                default:
                    return false;
            }
        }

        /** THE WILL for one of PEOPLE as things stand. */
        int value(State s, Town town, int person) {
            if (size == 0) {
                return 1;
            }
            int top = 0;
            for (int k = 0; k < size && k < WILL_SIGNS; k++) {
                int code = codes[k];
                if (code >= OPERATOR) {
                    int taken = code == NEGATION ? 0 : 1;
                    top -= taken;
                    if (top < 1) {
                        return 0;
                    }
                    int left = stack[top - 1];
                    stack[top - 1] = taken == 0 ? -left : combine(code - OPERATOR, left, stack[top]);
                } else {
                    if (top >= WILL_SIGNS) {
                        return 0;
                    }
                    stack[top] = code < FACT ? code : fact(code - FACT, s, town, person);
                    top++;
                }
            }
            return stack[0];
        }

        private static int combine(int sign, int a, int b) {
            switch (sign) {
                case '+': return a + b;
                case '-': return a - b;
                case '*': return a * b;
                case '/': return b == 0 ? 0 : a / b;
                case '<': return a < b ? 1 : 0;
                case '>': return a > b ? 1 : 0;
                default: return a == b ? 1 : 0;
            }
        }

        private static int fact(int sign, State s, Town town, int person) {
            int server = s.server;
            switch (sign) {
                case 'i': return person;
                case 'w': return s.weight[person];
                case 'p': return town.party[person];
                case 'v': return server < 0 ? 0 : s.weight[server];
                case 'q': return server < 0 ? NONE : town.party[server];
                case 's': return s.since;
                case 't': return s.holding;
                case 'n': return s.week;
                default: return s.weeksServed[person];
            }
        }
    }

    /** THE SCALE, and what weighings tell of it. */
    private static final class Scale {
        int grain = 1;
        int off;
        int least;
        int greatest;

        Scale() {
        }

        int shows(int weight) {
            int drawn = weight + off;
            if (drawn < 0) {
                return 0;
            }
            return grain < 1 ? drawn : drawn - drawn % grain;
        }

        /** PEOPLE (bits) with a weighing that is not what THE SCALE SHOWS with another OFF. */
        int misfits(Pairs weighings, int[] weights, int otherOff) {
            int those = 0;
            for (int k = 0; k < weighings.size; k++) {
                int person = weighings.person(k);
                if (person < 0 || person >= weights.length) {
                    continue;
                }
                // Another OFF is as if the WEIGHT were other by that much.
                if (shows(weights[person] + otherOff - off) != weighings.value(k)) {
                    those |= 1 << person;
                }
            }
            return those;
        }

        int possibleGrains(Pairs weighings, int people) {
            int those = 0;
            for (int other = 1; other <= GRAIN_MOST; other++) {
                boolean can = true;
                for (int person = 0; person < people && can; person++) {
                    can = narrow(weighings, person, other) > 0;
                }
                if (can) {
                    those |= 1 << other;
                }
            }
            return those;
        }

        /**
         * How many WEIGHTS one can have by its weighings: those from least to greatest, since what is
         * shown never falls as WEIGHT rises.
         */
        int narrow(Pairs weighings, int person, int otherGrain) {
            least = 1;
            greatest = WEIGHT_MOST;
            for (int k = 0; k < weighings.size; k++) {
                if (weighings.person(k) == person) {
                    narrowBy(weighings.value(k), otherGrain);
                }
            }
            return Math.max(0, greatest - least + 1);
        }

        private void narrowBy(int shown, int otherGrain) {
            if (otherGrain < 1 || shown % otherGrain != 0) {
                greatest = 0;
                return;
            }
            // Of a sum below 0 the scale shows 0, so that 0 sets no least weight.
            if (shown > 0) {
                least = Math.max(least, shown - off);
            }
            greatest = Math.min(greatest, shown + otherGrain - 1 - off);
        }
    }

    /** All that weeks, cakes and LAWS change. */
    private static final class State {
        int week;
        int server = NONE;
        int since;
        int alive;
        int holds;
        int holding;
        int lawsMade;
        final int[] weight = new int[PEOPLE_MOST];
        final int[] weeksServed = new int[PEOPLE_MOST];
        final int[] maker = new int[LAWS_MOST];
        final int[] madeIn = new int[LAWS_MOST];
        final int[] fellIn = new int[LAWS_MOST];
        final int[] history = new int[WEEKS_KNOWN];

        State() {
        }

        /** Becomes like another one in all on which weeks to come depend. */
        void follow(State from) {
            week = from.week;
            server = from.server;
            since = from.since;
            alive = from.alive;
            holds = from.holds;
            holding = from.holding;
            System.arraycopy(from.weight, 0, weight, 0, PEOPLE_MOST);
            System.arraycopy(from.weeksServed, 0, weeksServed, 0, PEOPLE_MOST);
        }

        void copy(State from) {
            follow(from);
            lawsMade = from.lawsMade;
            System.arraycopy(from.maker, 0, maker, 0, LAWS_MOST);
            System.arraycopy(from.madeIn, 0, madeIn, 0, LAWS_MOST);
            System.arraycopy(from.fellIn, 0, fellIn, 0, LAWS_MOST);
            System.arraycopy(from.history, 0, history, 0, WEEKS_KNOWN);
        }

        void welcome(int person, int weightTold) {
            if (person >= 0 && person < PEOPLE_MOST) {
                weight[person] = weightTold;
                weeksServed[person] = 0;
                alive |= 1 << person;
            }
        }

        boolean lives(int person) {
            return (alive >> person & 1) != 0;
        }

        void putWeight(int person, int v) {
            if (person >= 0 && person < PEOPLE_MOST) {
                weight[person] = inBounds(v);
            }
        }

        int makeLaw() {
            int law = lawsMade;
            if (law < 0 || law >= LAWS_MOST) {
                return NONE;
            }
            maker[law] = server;
            madeIn[law] = week;
            fellIn[law] = NONE;
            holds |= 1 << law;
            holding++;
            lawsMade++;
            return law;
        }

        /** LAWS that hold are all made by who serves: they fall together. */
        private int dropLaws() {
            int fell = holding;
            for (int law = 0; law < LAWS_MOST && fell > 0; law++) {
                if ((holds >> law & 1) != 0) {
                    fellIn[law] = week;
                }
            }
            holds = 0;
            holding = 0;
            return fell;
        }

        int bury(int person) {
            alive &= ~(1 << person);
            if (server != person) {
                return 0;
            }
            server = NONE;
            since = 0;
            return dropLaws();
        }

        /** The office goes to the winner, if there is one, and who holds it then has served a WEEK more. */
        void serveWeek(int winner) {
            if (winner != NONE) {
                dropLaws();
                server = winner;
                since = 0;
            }
            if (server >= 0 && server < PEOPLE_MOST) {
                since++;
                weeksServed[server]++;
            }
            history[Math.floorMod(week, WEEKS_KNOWN)] = server;
        }
    }

    /** Steps that can be undone, and what is kept under a number. */
    private static final class Past {
        private static final int STEPS_MOST = 20;
        private static final int KEPT_MOST = 3;

        final State[] ahead = new State[STEPS_MOST];
        final State[] kept = new State[KEPT_MOST];
        final int[] keptPeople = new int[KEPT_MOST];
        int first;
        int steps;

        Past() {
            for (int k = 0; k < STEPS_MOST; k++) {
                ahead[k] = new State();
            }
            for (int k = 0; k < KEPT_MOST; k++) {
                kept[k] = new State();
                keptPeople[k] = NONE;
            }
        }

        void remember(State now) {
            if (steps == STEPS_MOST) {
                first = (first + 1) % STEPS_MOST;
                steps--;
            }
            ahead[Math.floorMod(first + steps, STEPS_MOST)].copy(now);
            steps++;
        }

        boolean stepBack(State now) {
            if (steps < 1) {
                return false;
            }
            steps--;
            now.copy(ahead[Math.floorMod(first + steps, STEPS_MOST)]);
            return true;
        }

        void forgetSteps() {
            steps = 0;
        }

        boolean keepAside(int i, State now, int people) {
            if (i < 0 || i >= KEPT_MOST) {
                return false;
            }
            kept[i].copy(now);
            keptPeople[i] = people;
            return true;
        }

        boolean takeAgain(int i, State now, int people) {
            if (i < 0 || i >= KEPT_MOST || keptPeople[i] != people) {
                return false;
            }
            now.copy(kept[i]);
            forgetSteps();
            return true;
        }
    }

    /** A few numbers, each told of one of PEOPLE. */
    private static final class Pairs {
        final int[] persons;
        final int[] values;
        int size;

        Pairs(int limit) {
            int room = Math.max(0, limit);
            persons = new int[room];
            values = new int[room];
        }

        int append(int person, int v) {
            if (size < 0 || size >= persons.length) {
                return NONE;
            }
            persons[size] = person;
            values[size] = v;
            size++;
            return size;
        }

        int person(int k) {
            return k < 0 || k >= persons.length ? NONE : persons[k];
        }

        int value(int k) {
            return k < 0 || k >= values.length ? NONE : values[k];
        }
    }

    /**
     * How the office goes from one to the next. Who STANDS is told in two parts: sure are those that
     * STAND, asked are those that STAND if they WILL.
     */
    private static final class Office {
        private static final long WHOLE = 100000000L;

        final Town town;
        final Will will;
        final Scale scale;

        Office(Town town, Will will, Scale scale) {
            this.town = town;
            this.will = will;
            this.scale = scale;
        }

        void pass(State s, int sure, int asked) {
            finish(s, winner(s, sure, asked));
        }

        /** All of a WEEK but the choice of who wins. */
        void finish(State s, int winner) {
            s.serveWeek(winner);
            town.changeWeights(s);
            s.week++;
        }

        /** Who takes the office, or NONE. Only those who would are asked whether they WILL. */
        int winner(State s, int sure, int asked) {
            int best = NONE;
            int heaviest = shownOfServer(s);
            for (int person = 0; person < town.people; person++) {
                if (person == s.server || !s.lives(person)) {
                    continue;
                }
                int shown = scale.shows(s.weight[person]);
                if (shown <= heaviest) {
                    continue;
                }
                if ((sure >> person & 1) != 0
                    || (asked >> person & 1) != 0 && will.value(s, town, person) != 0) {
                    best = person;
                    heaviest = shown;
                }
            }
            return best;
        }

        /** What one has to outweigh: less than any WEIGHT shown, if nobody serves. */
        private int shownOfServer(State s) {
            return s.server < 0 ? -1 : scale.shows(s.weight[s.server]);
        }

        /** How likely each serves in the WEEK if people fall ILL, of WHOLE: at 0 nobody, at 1 person 0. */
        void shares(State s, long[] share) {
            int open = heavierWho(s);
            for (int k = 0; k < share.length; k++) {
                share[k] = 0;
            }
            long left = WHOLE;
            for (int k = 0; k < PEOPLE_MOST && open != 0; k++) {
                int first = heaviestOf(s, open);
                int ill = town.ill[first];
                share[1 + first] = left / 10 * (10 - ill);
                left = left / 10 * ill;
                open &= ~(1 << first);
            }
            share[1 + s.server] += left;
        }

        /** Those (bits) who WILL and would take the office, if they stood alone. */
        private int heavierWho(State s) {
            int those = 0;
            int bar = shownOfServer(s);
            for (int person = 0; person < town.people; person++) {
                if (person != s.server && s.lives(person) && scale.shows(s.weight[person]) > bar
                    && will.value(s, town, person) != 0) {
                    those |= 1 << person;
                }
            }
            return those;
        }

        private int heaviestOf(State s, int those) {
            int best = 0;
            int heaviest = -1;
            for (int person = 0; person < PEOPLE_MOST; person++) {
                if ((those >> person & 1) != 0 && scale.shows(s.weight[person]) > heaviest) {
                    best = person;
                    heaviest = scale.shows(s.weight[person]);
                }
            }
            return best;
        }
    }

    /** Weeks to come. */
    private static final class Future {
        private static final int CHOICES_MOST = 10;
        private static final int NOBODY = 1 << PEOPLE_MOST;

        final State now;
        final Town town;
        final Office office;
        final Row row;
        final State[] ladder = new State[CHOICES_MOST + 1];
        final State course = new State();
        final int[] plans = new int[PEOPLE_MOST];
        final long[] shares = new long[PEOPLE_MOST + 1];
        final long[] sharesThen = new long[PEOPLE_MOST + 1];
        int chooser;
        int choices;
        int bestWeeks;
        int bestPlan;

        Future(State now, Town town, Office office, Row row) {
            this.now = now;
            this.town = town;
            this.office = office;
            this.row = row;
            for (int k = 0; k <= CHOICES_MOST; k++) {
                ladder[k] = new State();
            }
        }

        private void run(int n, int asked) {
            course.follow(now);
            for (int k = 0; k < n; k++) {
                office.pass(course, 0, asked);
            }
        }

        /** For how many WEEKS of the course one served. */
        private int gain(int person) {
            return course.weeksServed[person] - now.weeksServed[person];
        }

        private int gainOfParty(int party) {
            int weeks = 0;
            for (int person = 0; person < town.people; person++) {
                if (town.party[person] == party) {
                    weeks += gain(person);
                }
            }
            return weeks;
        }

        int serverThen(int n) {
            run(n, EVERYONE);
            row.size = 0;
            for (int person = 0; person < town.people; person++) {
                row.add(gain(person));
            }
            return course.server;
        }

        int weeksTill(int person) {
            course.follow(now);
            for (int k = 1; k <= WEEKS_ON; k++) {
                office.pass(course, 0, EVERYONE);
                if (course.server == person) {
                    return k;
                }
            }
            return -2;
        }

        int reachable(int n) {
            int inAny = 0;
            int inLast = 0;
            int reach = now.server < 0 ? NOBODY : 1 << now.server;
            course.follow(now);
            for (int k = 0; k < n; k++) {
                reach |= heavierThan(lightest(reach));
                inLast = reach & EVERYONE;
                inAny |= inLast;
                office.pass(course, 0, 0);
            }
            row.begin(inLast);
            return inAny;
        }

        /** The least that is shown of those who can serve: who outweighs that one can be next. */
        private int lightest(int reach) {
            if ((reach & NOBODY) != 0) {
                return -1;
            }
            int least = SHOWN_MOST;
            for (int person = 0; person < town.people; person++) {
                if ((reach >> person & 1) != 0) {
                    least = Math.min(least, office.scale.shows(course.weight[person]));
                }
            }
            return least;
        }

        private int heavierThan(int bar) {
            int those = 0;
            for (int person = 0; person < town.people; person++) {
                if (course.lives(person) && office.scale.shows(course.weight[person]) > bar) {
                    those |= 1 << person;
                }
            }
            return those;
        }

        int bestStanding(int person, int n) {
            chooser = person;
            choices = n;
            bestWeeks = NONE;
            bestPlan = 0;
            ladder[0].follow(now);
            search(0, 0);
            row.begin(bestPlan);
            return bestWeeks;
        }

        /** All PLANS that begin as plan does in the first k WEEKS. */
        private void search(int k, int plan) {
            if (k < 0 || k > choices || k > CHOICES_MOST) {
                return;
            }
            State here = ladder[k];
            int weeks = here.weeksServed[chooser] - now.weeksServed[chooser];
            if (weeks + choices - k < bestWeeks) {
                return;
            }
            if (k == choices || k == CHOICES_MOST) {
                judge(weeks, plan);
                return;
            }
            State next = ladder[k + 1];
            searchStanding(here, next, k, plan);
            searchWaiting(here, next, k, plan);
        }

        /** To stand without winning changes nothing, so that only WEEKS that are won are worth it. */
        private void searchStanding(State here, State next, int k, int plan) {
            if (here.server != chooser && office.winner(here, 1 << chooser, allButChooser()) == chooser) {
                next.follow(here);
                office.finish(next, chooser);
                search(k + 1, plan | 1 << k);
            }
        }

        private void searchWaiting(State here, State next, int k, int plan) {
            next.follow(here);
            office.pass(next, 0, allButChooser());
            search(k + 1, plan);
        }

        private int allButChooser() {
            return EVERYONE & ~(1 << chooser);
        }

        private void judge(int weeks, int plan) {
            boolean shorter = Integer.bitCount(plan) < Integer.bitCount(bestPlan)
                || Integer.bitCount(plan) == Integer.bitCount(bestPlan) && plan < bestPlan;
            if (weeks > bestWeeks || weeks == bestWeeks && shorter) {
                bestWeeks = weeks;
                bestPlan = plan;
            }
        }

        int rounds(int n, int m) {
            for (int person = 0; person < PEOPLE_MOST; person++) {
                plans[person] = (1 << n) - 1;
            }
            boolean resting = false;
            int rounds = 0;
            while (rounds < m && !resting) {
                resting = !someoneTurns(n);
                rounds++;
            }
            row.begin(resting ? 1 : 0);
            for (int person = 0; person < town.people; person++) {
                row.add(plans[person]);
            }
            return rounds;
        }

        /** A round: whether one takes another PLAN. */
        private boolean someoneTurns(int n) {
            boolean turned = false;
            for (int person = 0; person < town.people; person++) {
                int own = plans[person];
                if (now.lives(person)) {
                    plans[person] = bestReply(person, n);
                }
                turned = turned || plans[person] != own;
            }
            return turned;
        }

        private int bestReply(int person, int n) {
            int best = plans[person];
            int weeks = weeksByPlans(person, n);
            for (int plan = 0; plan < 1 << n && weeks < n; plan++) {
                plans[person] = plan;
                int withPlan = weeksByPlans(person, n);
                if (withPlan > weeks) {
                    best = plan;
                    weeks = withPlan;
                }
            }
            return best;
        }

        private int weeksByPlans(int person, int n) {
            course.follow(now);
            for (int k = 0; k < n; k++) {
                int those = 0;
                for (int other = 0; other < town.people; other++) {
                    those |= (plans[other] >> k & 1) << other;
                }
                office.finish(course, office.winner(course, those, 0));
            }
            return gain(person);
        }

        int strongestParty(int n) {
            run(n, EVERYONE);
            int best = NONE;
            int most = 0;
            row.size = 0;
            for (int party = 0; party < PARTIES; party++) {
                int weeks = gainOfParty(party);
                row.add(weeks);
                if (weeks > most) {
                    best = party;
                    most = weeks;
                }
            }
            row.add(gainers());
            return best;
        }

        private int gainers() {
            int those = 0;
            for (int person = 0; person < town.people; person++) {
                if (gain(person) > 0) {
                    those |= 1 << person;
                }
            }
            return those;
        }

        int takingTurns(int party, int n) {
            run(n, EVERYONE);
            int byWill = gainOfParty(party);
            int members = town.ofParty(party);
            int turn = NONE;
            course.follow(now);
            for (int k = 0; k < n; k++) {
                turn = nextOf(members & now.alive, turn);
                office.pass(course, turn < 0 ? 0 : 1 << turn, EVERYONE & ~members);
            }
            int byTurn = gainOfParty(party);
            row.begin(byTurn - byWill);
            return byTurn;
        }

        /** The next one by numbers, round; NONE, if there are none. */
        private static int nextOf(int those, int last) {
            for (int k = 1; k <= PEOPLE_MOST; k++) {
                int person = (last + k) % PEOPLE_MOST;
                if ((those >> person & 1) != 0) {
                    return person;
                }
            }
            return NONE;
        }

        int foolsWorth(int person, int n) {
            int party = town.party[person];
            run(n, EVERYONE);
            int with = gainOfParty(party);
            run(n, EVERYONE & ~(1 << person));
            int without = gainOfParty(party);
            row.begin(with);
            row.add(without);
            return with - without;
        }

        void tellChance(int person, int n) {
            if (n == 0) {
                row.fraction(now.server == person ? 1 : 0, 1);
                return;
            }
            office.shares(now, shares);
            if (n == 1) {
                row.fraction(shares[1 + person], Office.WHOLE);
            } else {
                row.fraction(chanceInTwo(person), Office.WHOLE * Office.WHOLE);
            }
        }

        private long chanceInTwo(int person) {
            long chance = 0;
            for (int k = 0; k <= town.people; k++) {
                if (shares[k] > 0) {
                    course.follow(now);
                    office.finish(course, k - 1 == now.server ? NONE : k - 1);
                    office.shares(course, sharesThen);
                    chance += shares[k] * sharesThen[1 + person];
                }
            }
            return chance;
        }

        int likeliest() {
            office.shares(now, shares);
            int best = 0;
            for (int k = 1; k <= town.people; k++) {
                if (shares[k] > shares[best]) {
                    best = k;
                }
            }
            row.fraction(shares[best], Office.WHOLE);
            return best - 1;
        }
    }

    /** Weights tried out: cakes, fasts, and what explains the dates told. */
    private static final class Trials {
        private static final int ANYONE = -1;

        final State now;
        final Town town;
        final Office office;
        final Row row;
        final State trial = new State();
        final int[] due = new int[WEEKS_FED + 1];
        int lastDue;

        Trials(State now, Town town, Office office, Row row) {
            this.now = now;
            this.town = town;
            this.office = office;
            this.row = row;
        }

        /** Begins anew, one having eaten so many cakes. */
        private void feast(int person, int cakes) {
            trial.follow(now);
            trial.putWeight(person, now.weight[person] + cakes);
        }

        /** How many of the numbers of cakes, from 0 on, may differ in what comes of them. */
        private int cakesWorthTrying(int person) {
            return Math.min(CAKES_MOST, WEIGHT_MOST - now.weight[person]);
        }

        int cakesToStay(int server, int n) {
            int last = cakesWorthTrying(server);
            for (int cakes = 0; cakes <= last; cakes++) {
                feast(server, cakes);
                int weeks = 0;
                while (weeks < n && trial.server == server) {
                    office.pass(trial, 0, EVERYONE);
                    weeks++;
                }
                if (trial.server == server) {
                    return cakes;
                }
            }
            return -2;
        }

        int cakesToServe(int person, int n) {
            int last = cakesWorthTrying(person);
            for (int cakes = 0; cakes <= last; cakes++) {
                feast(person, cakes);
                for (int k = 0; k < n; k++) {
                    office.pass(trial, 0, EVERYONE);
                }
                if (trial.server == person) {
                    row.begin(trial.weeksServed[person] - now.weeksServed[person]);
                    return cakes;
                }
            }
            return -2;
        }

        int ouncesToMiss(int person, int n) {
            for (int ounces = 0; ounces < now.weight[person]; ounces++) {
                feast(person, -ounces);
                int weeks = 0;
                while (weeks < n && trial.weeksServed[person] == now.weeksServed[person]) {
                    office.pass(trial, 0, EVERYONE);
                    weeks++;
                }
                if (trial.weeksServed[person] == now.weeksServed[person]) {
                    return ounces;
                }
            }
            return -2;
        }

        int leastFed() {
            int best = -2;
            int fewest = CAKES_MOST + 1;
            for (int person = 0; person < town.people; person++) {
                int cakes = now.lives(person) ? cakesForNextWeek(person, fewest - 1) : NONE;
                if (cakes != NONE) {
                    best = person;
                    fewest = cakes;
                }
            }
            if (best >= 0) {
                row.begin(fewest);
            }
            return best;
        }

        /** The fewest cakes, if they are no more than the most; else NONE. */
        private int cakesForNextWeek(int person, int most) {
            int last = Math.min(most, cakesWorthTrying(person));
            for (int cakes = 0; cakes <= last; cakes++) {
                feast(person, cakes);
                int winner = office.winner(trial, 1 << person, EVERYONE & ~(1 << person));
                if (winner == person || winner == NONE && now.server == person) {
                    return cakes;
                }
            }
            return NONE;
        }

        /** Sets down who is due when; false, if two are told of one WEEK. */
        private boolean gather(Pairs tellings) {
            lastDue = 0;
            for (int k = 0; k <= WEEKS_FED; k++) {
                due[k] = ANYONE;
            }
            for (int k = 0; k < tellings.size; k++) {
                int week = tellings.value(k);
                int person = tellings.person(k);
                if (week < 0 || week > WEEKS_FED || due[week] != ANYONE && due[week] != person) {
                    return false;
                }
                due[week] = person;
                lastDue = Math.max(lastDue, week);
            }
            return true;
        }

        /** Whether from the trial's beginning on all comes as it is due. */
        private boolean comesAsDue(int asked) {
            for (int k = 1; k <= lastDue && k <= WEEKS_FED; k++) {
                office.pass(trial, 0, asked);
                if (due[k] != ANYONE && due[k] != trial.server) {
                    return false;
                }
            }
            return true;
        }

        int explainingWeights(Pairs tellings, int person) {
            int some = 0;
            int least = 0;
            int greatest = 0;
            int last = gather(tellings) ? WEIGHT_MOST : 0;
            for (int weight = 1; weight <= last; weight++) {
                feast(person, weight - now.weight[person]);
                if (comesAsDue(EVERYONE)) {
                    least = some == 0 ? weight : least;
                    greatest = weight;
                    some++;
                }
            }
            row.range(some, least, greatest);
            return some;
        }

        int explainingAbsences(Pairs tellings) {
            boolean can = gather(tellings);
            trial.follow(now);
            row.begin(can && comesAsDue(EVERYONE) ? 1 : 0);
            int those = 0;
            for (int person = 0; person < town.people; person++) {
                trial.follow(now);
                if (can && now.lives(person) && comesAsDue(EVERYONE & ~(1 << person))) {
                    those |= 1 << person;
                }
            }
            return those;
        }
    }
}
