import java.util.NoSuchElementException;

/** A propped old city, as ../shared/DOC.md tells it. Words in its terms are named likewise here. */
public final class LeanCity {
    public static final int NONE = -1;

    private static final int HOUSES = 8;
    private static final int PEOPLE = 6;
    private static final int DAYS = 7;
    private static final int ALL_DAYS = 127;
    private static final int TAPE_BYTES = 400;
    private static final int CITY_TEXTS = 12;
    private static final int CITY_LINES = 14;
    private static final int LAW_LINES = 12;
    private static final int DEEPEST = 6;
    private static final int MOST_NUMBER = 999;
    private static final int PRESS_TURNS = 12;
    private static final int MOST_WEIGHT = 99;
    private static final int MOST_FIRM = 999;
    private static final int MOST_IVY = 9;
    private static final int MOST_AGE = 99;
    private static final int MOST_HOLD = 99;
    private static final int MOST_PART = 9;
    private static final int MOST_WEEK = 9999;
    private static final int MOST_EVENINGS = 70;
    private static final int MOST_ODDS = 4;
    private static final int MOST_ORDER = 5;
    private static final int MOST_FELT = 40;
    private static final int SEEDS = 6;
    private static final int PAST = 12;
    private static final int LOG_ROWS = 60;
    private static final int LOG_WIDTH = 6;
    private static final int LAST_OF_HOUSE = 12;

    private static final int FIRM_LINE = 0;
    private static final int SOFT_LINE = 1;
    private static final int GROW_LINE = 2;

    private static final int FACT_HOUSE = 0;
    private static final int FACT_WEIGHT = 1;
    private static final int FACT_IVY = 2;
    private static final int FACT_AGE = 3;
    private static final int FACT_EVENING = 4;
    private static final int FACT_PRESS = 5;
    private static final int FACT_LEANING = 6;
    private static final int FACT_LEANT = 7;
    private static final int FACT_HELD = 8;
    private static final int FACTS = 9;
    private static final int OP_NUMBER = 9;
    private static final int OP_NOT = 10;
    private static final int OP_PLUS = 11;
    private static final int OP_LESS = 12;
    private static final int OP_MORE = 13;
    private static final int OP_AND = 14;
    private static final int OP_OR = 15;
    // Six levels of "(" and "not" keep two waiting values each, a comparison three: 17 at most.
    private static final int STACK = 32;

    private final Tape tape = new Tape();
    private final City now = new City();
    private final City probe = new City();
    private final Law rules = new Law();
    private final Law draftRules = new Law();
    private final Course course = new Course();
    private final Razing razing = new Razing();
    private final Posts posts = new Posts();
    private final Breaks breaks = new Breaks();
    private final City kept = new City();
    private final Law keptRules = new Law();
    private boolean hasKept;
    private final City[] past = new City[PAST];
    private int pastFirst;
    private int pastCount;

    public LeanCity() {
        for (int i = 0; i < past.length; i++) {
            past[i] = new City();
        }
    }

    // ---- the tape and the texts ----

    public int feed(int a, int b, int c, int d, int e) {
        if (tape.length + 20 > TAPE_BYTES) {
            return NONE;
        }
        tape.append(a);
        tape.append(b);
        tape.append(c);
        tape.append(d);
        tape.append(e);
        return tape.length;
    }

    public boolean end(int n) {
        if (n < 0 || n > tape.length) {
            return false;
        }
        tape.length = n;
        return true;
    }

    public int city() throws IllegalArgumentException, UnsupportedOperationException {
        probe.copyFrom(now);
        boolean right = CityReader.read(tape, probe);
        tape.length = 0;
        if (!right) {
            throw new IllegalArgumentException();
        }
        if (now.texts >= CITY_TEXTS) {
            throw new UnsupportedOperationException();
        }
        now.copyFrom(probe);
        now.texts++;
        pastCount = 0;
        return now.texts;
    }

    public int law() throws IllegalArgumentException {
        boolean right = LawReader.read(tape, draftRules);
        tape.length = 0;
        if (!right) {
            throw new IllegalArgumentException();
        }
        rules.copyFrom(draftRules);
        pastCount = 0;
        return rules.lines;
    }

    public int fault() {
        return tape.wrong;
    }

    // ---- what there is ----

    public int house(int house, int what) throws IndexOutOfBoundsException, NoSuchElementException {
        checkHouse(house);
        if (what < 0 || what > LAST_OF_HOUSE) {
            throw new NoSuchElementException();
        }
        return what <= 4 ? ownOf(house, what) : loadOf(house, what);
    }

    private int ownOf(int house, int what) {
        if (!now.isHouse(house)) {
            return 0;
        }
        switch (what) {
            case 0: return now.weight[house];
            case 1: return now.firm[house];
            case 2: return now.ivy[house];
            case 3: return now.age[house];
            default: return now.isUp(house) ? 0 : 1;
        }
    }

    private int loadOf(int house, int what) {
        if (!now.isUp(house)) {
            return 0;
        }
        Strain strain = measured();
        switch (what) {
            case 5: return strain.press[house];
            case 6: return strain.bears[house];
            case 7: return strain.stands[house];
            case 8: return strain.sags[house];
            case 9: return strain.grows[house];
            case 10: return shareOf(house);
            case 11: return now.priceOf(house);
            default: return now.gateOf(house);
        }
    }

    private int shareOf(int house) {
        int all = course.strain.allBear();
        return all > 0 && now.isUp(house) ? course.strain.bears[house] * 100 / all : 0;
    }

    public int part(int house, int other) throws IndexOutOfBoundsException {
        checkHouse(house);
        checkHouse(other);
        return now.partOf(house, other);
    }

    public int person(int person, int what) throws IndexOutOfBoundsException, NoSuchElementException {
        checkPerson(person);
        switch (what) {
            case 0: return now.placeOf(person);
            case 1: return now.holdOf(person);
            case 2: return now.daysOf(person);
            case 3: return fallsWithout(person, now.evening) & ~fallsNow(now.evening);
            default: throw new NoSuchElementException();
        }
    }

    public int count(int what) {
        switch (what) {
            case 0: return now.houses;
            case 1: return now.people;
            case 2: return now.texts;
            case 3: return rules.lines;
            case 4: return now.evening;
            case 5: return now.week;
            case 6: return now.wander;
            case 7: return now.prop;
            case 8: return now.up;
            case 9: return measured().allBear();
            case 10: return now.log.rows;
            case 11: return pastCount;
            default: return NONE;
        }
    }

    // ---- acts ----

    public int evenings(int n) throws IllegalArgumentException {
        checkAmount(n, 1, MOST_EVENINGS);
        remember();
        int before = Integer.bitCount(now.up);
        course.run(now, rules, n, true);
        return before - Integer.bitCount(now.up);
    }

    public int build(int weight, int firm, int on, int part)
            throws IndexOutOfBoundsException, IllegalArgumentException, IllegalStateException {
        checkHouse(on);
        checkAmount(weight, 1, MOST_WEIGHT);
        checkAmount(firm, 0, MOST_FIRM);
        checkAmount(part, 1, MOST_PART);
        if (now.houses >= HOUSES) {
            throw new IllegalStateException();
        }
        checkUp(on);
        remember();
        int built = now.addHouse(weight, firm, 0, 0);
        now.setPart(built, on, part);
        return built;
    }

    public int lean(int house, int other, int part)
            throws IndexOutOfBoundsException, IllegalArgumentException, IllegalStateException {
        checkTwoHouses(house, other);
        checkAmount(part, 0, MOST_PART);
        checkUp(house);
        checkUp(other);
        remember();
        int before = now.partOf(house, other);
        now.setPart(house, other, part);
        return before;
    }

    public int wed(int house, int other)
            throws IndexOutOfBoundsException, IllegalArgumentException, IllegalStateException {
        checkTwoHouses(house, other);
        checkUp(house);
        checkUp(other);
        remember();
        now.marry(house, other);
        return now.partOf(house, other);
    }

    public int trim(int house) throws IndexOutOfBoundsException, IllegalStateException {
        checkHouse(house);
        checkUp(house);
        remember();
        return now.cutIvy(house);
    }

    public int move(int person, int house) throws IndexOutOfBoundsException, IllegalStateException {
        checkPerson(person);
        checkHouse(house);
        checkUp(house);
        remember();
        int before = now.placeOf(person);
        now.put(person, house);
        return before;
    }

    public boolean come(int person, int evening, boolean is) throws IndexOutOfBoundsException {
        checkPerson(person);
        checkEvening(evening);
        remember();
        return now.setDay(person, evening, is);
    }

    public int raze(int house) throws IndexOutOfBoundsException, IllegalStateException {
        checkHouse(house);
        checkUp(house);
        remember();
        int bore = loadOf(house, 6);
        now.log.add(now.week, now.evening, house, 0, 0, 1);
        now.takeDown(house);
        return bore;
    }

    // ---- falls ----

    public int falls(int evening) throws IndexOutOfBoundsException {
        checkEvening(evening);
        return fallsNow(evening);
    }

    public int rounds(int evening) throws IndexOutOfBoundsException {
        checkEvening(evening);
        fallsNow(evening);
        return course.rounds;
    }

    public int pulls(int house) throws IndexOutOfBoundsException, IllegalStateException {
        checkHouse(house);
        checkUp(house);
        return pulledBy(house);
    }

    public int key() {
        int best = NONE;
        int most = 0;
        for (int h = 0; h < HOUSES; h++) {
            int pulled = now.isUp(h) ? pulledBy(h) : 0;
            if (pulled > most) {
                most = pulled;
                best = h;
            }
        }
        return best;
    }

    public int spare() {
        int spared = (1 << now.people) - 1;
        for (int evening = 0; evening < DAYS; evening++) {
            int with = fallsNow(evening);
            for (int p = 0; p < now.people; p++) {
                if ((fallsWithout(p, evening) & ~with) != 0) {
                    spared &= ~(1 << p);
                }
            }
        }
        return spared;
    }

    public int weakest() {
        int best = 0;
        int most = 0;
        for (int evening = 0; evening < DAYS; evening++) {
            int fallen = Integer.bitCount(fallsNow(evening));
            if (fallen > most) {
                most = fallen;
                best = evening;
            }
        }
        return best;
    }

    /** Whatever SAGS falls in the first round, and a prop changes no PRESS: just those that SAG need one each. */
    public int props(int evening) throws IndexOutOfBoundsException {
        checkEvening(evening);
        Strain strain = course.strain;
        strain.measure(now, rules, evening);
        int sagging = strain.saggingSet();
        for (int h = 0; h < HOUSES; h++) {
            if ((sagging >> h & 1) == 1 && strain.sags[h] > now.prop) {
                return NONE;
            }
        }
        return sagging;
    }

    public int order(int k) throws IllegalArgumentException {
        int told = toldHouses();
        razing.solve(now, rules, course, told);
        return k >= 0 && k < Integer.bitCount(told) && k < razing.best.length ? razing.best[k] : NONE;
    }

    public int means() throws IllegalArgumentException {
        int told = toldHouses();
        razing.solve(now, rules, course, told);
        return razing.bestSteps;
    }

    public int broken(boolean which) throws IllegalArgumentException {
        collectBreaks();
        if (!which) {
            return breaks.count;
        }
        return breaks.count > 0 ? breaks.lean[0] : NONE;
    }

    public int tap() throws IllegalArgumentException {
        collectBreaks();
        return breaks.count < 2 ? NONE : breaks.bestTap(now.up);
    }

    // ---- loads and leans ----

    public int eases() {
        int least = measured().greatestSag(now.up);
        int best = NONE;
        for (int one = 0; one < HOUSES; one++) {
            for (int other = one + 1; other < HOUSES; other++) {
                int sag = now.isUp(one) && now.isUp(other) ? sagWed(one, other) : least;
                if (sag < least) {
                    least = sag;
                    best = HOUSES * one + other;
                }
            }
        }
        return best;
    }

    private int sagWed(int one, int other) {
        probe.copyFrom(now);
        probe.marry(one, other);
        course.strain.measure(probe, rules, probe.evening);
        return course.strain.greatestSag(probe.up);
    }

    public int sagging() {
        return measured().greatestSag(now.up);
    }

    public boolean ring(int house) throws IndexOutOfBoundsException {
        checkHouse(house);
        return (now.onward(house) >> house & 1) == 1;
    }

    public int held(int house) throws IndexOutOfBoundsException {
        checkHouse(house);
        return now.onward(house);
    }

    public int ends() {
        int found = 0;
        for (int h = 0; h < HOUSES; h++) {
            if (now.isUp(h) && now.leansOn(h) == 0) {
                found |= 1 << h;
            }
        }
        return found;
    }

    public int apart(int house) throws IndexOutOfBoundsException {
        checkHouse(house);
        if (!now.isUp(house)) {
            return 0;
        }
        int others = now.pieceOf(house, now.up) & ~(1 << house);
        int parted = pairs(Integer.bitCount(others));
        int left = others;
        for (int h = 0; h < HOUSES; h++) {
            if ((left >> h & 1) == 1) {
                int piece = now.pieceOf(h, others);
                parted -= pairs(Integer.bitCount(piece));
                left &= ~piece;
            }
        }
        return parted;
    }

    private static int pairs(int n) {
        return n * (n - 1) / 2;
    }

    public int pieces() {
        int found = 0;
        int left = now.up;
        for (int h = 0; h < HOUSES; h++) {
            if ((left >> h & 1) == 1) {
                found++;
                left &= ~now.pieceOf(h, now.up);
            }
        }
        return found;
    }

    public int straight() {
        int found = 0;
        for (int h = 0; h < HOUSES; h++) {
            if (now.isUp(h) && now.touching(h) == 0) {
                found |= 1 << h;
            }
        }
        return found;
    }

    public int leans() {
        int found = 0;
        for (int h = 0; h < HOUSES; h++) {
            found += Integer.bitCount(now.leansOn(h));
        }
        return found;
    }

    public int twins() {
        int found = 0;
        for (int one = 0; one < HOUSES; one++) {
            for (int other = one + 1; other < HOUSES; other++) {
                if (now.isUp(one) && now.isUp(other)
                        && now.weight[one] == now.weight[other] && now.firm[one] == now.firm[other]) {
                    found++;
                }
            }
        }
        return found;
    }

    public int oldest() {
        int best = NONE;
        int most = -1;
        for (int h = 0; h < HOUSES; h++) {
            if (now.isUp(h) && now.age[h] > most) {
                most = now.age[h];
                best = h;
            }
        }
        return best;
    }

    // ---- people ----

    public int gates(int person) throws IndexOutOfBoundsException {
        if (person != NONE) {
            checkPerson(person);
        }
        probe.copyFrom(now);
        for (int p = 0; p < PEOPLE; p++) {
            probe.put(p, NONE);
        }
        course.strain.measure(probe, rules, probe.evening);
        int all = posts.solve(probe, course.strain);
        return person == NONE ? all : posts.placeOf(person);
    }

    public boolean swap(int person, int other) throws IndexOutOfBoundsException, IllegalArgumentException {
        checkTwoPeople(person, other);
        int before = Integer.bitCount(fallsNow(now.evening));
        probe.copyFrom(now);
        probe.put(person, now.placeOf(other));
        probe.put(other, now.placeOf(person));
        return Integer.bitCount(course.fall(probe, rules, probe.evening)) < before;
    }

    public int rests(int person, int other) throws IndexOutOfBoundsException, IllegalArgumentException {
        checkTwoPeople(person, other);
        int found = 0;
        for (int choices = 0; choices < 4; choices++) {
            int one = choices >> 1;
            int two = choices & 1;
            if (gain(person, 1 - one, two) <= gain(person, one, two)
                    && gain(other, 1 - two, one) <= gain(other, two, one)) {
                found |= 1 << choices;
            }
        }
        return found;
    }

    /** What a person has by its own choice and the other one's (0: leans, 1: goes home). */
    private int gain(int person, int own, int others) {
        if (own == 1) {
            return others == 1 ? -3 : 2;
        }
        return others == 0 ? 3 : now.holdOf(person) / 10 - 4;
    }

    public int odds(int n) throws IllegalArgumentException {
        checkAmount(n, 0, MOST_ODDS);
        int odds = 10000;
        for (int evening = 0; evening < n; evening++) {
            for (int p = 0; p < PEOPLE; p++) {
                if (now.placeOf(p) != NONE) {
                    odds = odds * (100 - now.wander) / 100;
                }
            }
        }
        return odds;
    }

    public int there(int evening) throws IndexOutOfBoundsException {
        checkEvening(evening);
        int found = 0;
        for (int p = 0; p < PEOPLE; p++) {
            if (now.placeOf(p) != NONE && now.isThere(p, evening)) {
                found |= 1 << p;
            }
        }
        return found;
    }

    // ---- times to come ----

    public int down() {
        probe.copyFrom(now);
        for (int n = 1; n <= MOST_EVENINGS; n++) {
            course.pass(probe, rules, false);
            if (probe.up != now.up) {
                return n;
            }
        }
        return NONE;
    }

    public int ahead(int n) throws IllegalArgumentException {
        checkAmount(n, 0, MOST_EVENINGS);
        probe.copyFrom(now);
        course.run(probe, rules, n, false);
        return probe.up;
    }

    public int trial(int n, boolean hold) throws IllegalArgumentException {
        checkAmount(n, 0, MOST_EVENINGS);
        probe.copyFrom(now);
        course.run(probe, rules, n, true);
        return hold ? probe.holdOfAll() : probe.up;
    }

    public int span(int n, boolean most) throws IllegalArgumentException {
        checkAmount(n, 0, MOST_EVENINGS);
        int least = HOUSES;
        int greatest = 0;
        for (int seed = 1; seed <= SEEDS; seed++) {
            probe.copyFrom(now);
            probe.seed = seed;
            course.run(probe, rules, n, true);
            int up = Integer.bitCount(probe.up);
            least = Math.min(least, up);
            greatest = Math.max(greatest, up);
        }
        return most ? greatest : least;
    }

    // ---- the log and what can be taken back ----

    public int led(int house, boolean week) throws IndexOutOfBoundsException {
        checkHouse(house);
        int found = 0;
        for (int ago = 0; ago < now.log.rows; ago++) {
            if (now.log.cell(ago, 2) == house) {
                if (week) {
                    return now.log.cell(ago, 0);
                }
                found++;
            }
        }
        return week ? NONE : found;
    }

    public int log(int ago, int what) throws NoSuchElementException {
        if (what < 0 || what >= LOG_WIDTH) {
            throw new NoSuchElementException();
        }
        return now.log.cell(ago, what);
    }

    public int seed(int n) {
        int before = now.seed;
        now.seed = n;
        return before;
    }

    public boolean undo() {
        if (pastCount <= 0) {
            return false;
        }
        City latest = pastAt(pastCount - 1);
        if (latest == null) {
            return false;
        }
        now.copyFrom(latest);
        pastCount--;
        return true;
    }

    public void image() {
        kept.copyFrom(now);
        keptRules.copyFrom(rules);
        hasKept = true;
    }

    public boolean back() {
        if (!hasKept) {
            return false;
        }
        now.copyFrom(kept);
        rules.copyFrom(keptRules);
        pastCount = 0;
        return true;
    }

    // ---- common to the above ----

    private void checkHouse(int house) {
        if (!now.isHouse(house)) {
            throw new IndexOutOfBoundsException();
        }
    }

    private void checkPerson(int person) {
        if (!now.isPerson(person)) {
            throw new IndexOutOfBoundsException();
        }
    }

    private static void checkEvening(int evening) {
        if (evening < 0 || evening >= DAYS) {
            throw new IndexOutOfBoundsException();
        }
    }

    private static void checkAmount(int n, int least, int most) {
        if (n < least || n > most) {
            throw new IllegalArgumentException();
        }
    }

    private void checkTwoHouses(int house, int other) {
        checkHouse(house);
        checkHouse(other);
        if (house == other) {
            throw new IllegalArgumentException();
        }
    }

    private void checkTwoPeople(int person, int other) {
        checkPerson(person);
        checkPerson(other);
        if (person == other) {
            throw new IllegalArgumentException();
        }
    }

    private void checkUp(int house) {
        if (!now.isUp(house)) {
            throw new IllegalStateException();
        }
    }

    private void remember() {
        if (pastCount >= PAST) {
            pastFirst = (pastFirst + 1) % PAST;
            pastCount = PAST - 1;
        }
        City slot = pastAt(pastCount);
        if (slot != null) {
            slot.copyFrom(now);
            pastCount++;
        }
    }

    private City pastAt(int which) {
        int slot = (pastFirst + which) % PAST;
        return slot >= 0 && slot < past.length ? past[slot] : null;
    }

    private Strain measured() {
        course.strain.measure(now, rules, now.evening);
        return course.strain;
    }

    private int fallsNow(int evening) {
        probe.copyFrom(now);
        return course.fall(probe, rules, evening);
    }

    private int fallsWithout(int person, int evening) {
        probe.copyFrom(now);
        probe.put(person, NONE);
        return course.fall(probe, rules, evening);
    }

    private int pulledBy(int house) {
        probe.copyFrom(now);
        probe.takeDown(house);
        return 1 + Integer.bitCount(course.fall(probe, rules, probe.evening));
    }

    /** The set that the tape tells (its order does not matter: every order of it is looked at). */
    private int toldHouses() {
        int bytes = tape.length;
        tape.length = 0;
        int told = 0;
        boolean right = bytes <= MOST_ORDER;
        for (int i = 0; right && i < bytes; i++) {
            int house = tape.byteAt(i);
            right = now.isUp(house) && (told >> house & 1) == 0;
            if (right) {
                told |= 1 << house;
            }
        }
        if (!right) {
            throw new IllegalArgumentException();
        }
        return told;
    }

    private void collectBreaks() {
        int bytes = tape.length;
        tape.length = 0;
        boolean right = bytes <= MOST_FELT && bytes % 2 == 0;
        for (int i = 0; right && i < bytes; i += 2) {
            right = now.isHouse(tape.byteAt(i));
        }
        if (!right) {
            throw new IllegalArgumentException();
        }
        breaks.tell(tape, bytes);
        breaks.collect(now, probe, course.strain);
    }

    /** The bytes that were fed; of a text in them the thing that comes next, and where the latest text was wrong. */
    private static final class Tape {
        // Kinds of things beside single signs, which are told by their bytes.
        private static final int WORD = 256;
        private static final int FIGURES = 257;
        private static final int END = -1;
        final int[] bytes = new int[TAPE_BYTES];
        int length;
        int wrong = NONE;
        int first;
        private int behind;
        private int kind = END;
        private int value;

        void append(int number) {
            for (int shift = 24; shift >= 0; shift -= 8) {
                if (length >= 0 && length < bytes.length) {
                    bytes[length] = number >>> shift & 255;
                    length++;
                }
            }
        }

        int byteAt(int index) {
            return index >= 0 && index < bytes.length ? bytes[index] : NONE;
        }

        void open() {
            wrong = NONE;
            behind = 0;
            step();
        }

        /** Goes on to the next word, figures, single sign, or the end. */
        void step() {
            int end = Math.min(length, bytes.length);
            int i = Math.max(0, behind);
            while (i < end && bytes[i] == ' ') {
                i++;
            }
            first = i;
            int sign = i < end ? bytes[i] : END;
            boolean word = sign >= 'a' && sign <= 'z';
            boolean figures = sign >= '0' && sign <= '9';
            int least = word ? 'a' : '0';
            int most = word ? 'z' : '9';
            kind = word ? WORD : figures ? FIGURES : sign;
            value = 0;
            if (word || figures) {
                while (i < end && bytes[i] >= least && bytes[i] <= most) {
                    value = Math.min(MOST_NUMBER + 1, value * 10 + bytes[i] - least);
                    i++;
                }
            } else if (i < end) {
                i++;
            }
            behind = i;
        }

        boolean isDone() {
            return kind == END;
        }

        boolean isSign(char sign) {
            return kind == sign;
        }

        /** Which of some words, told with a blank between, comes next. */
        int wordOf(String words) {
            if (kind != WORD) {
                return NONE;
            }
            int which = 0;
            int i = first;
            boolean same = true;
            for (int k = 0; k <= words.length(); k++) {
                int sign = k < words.length() ? words.charAt(k) : ' ';
                if (sign != ' ') {
                    same = same && i >= 0 && i < behind && i < bytes.length && bytes[i] == sign;
                    i++;
                } else if (same && i == behind) {
                    return which;
                } else {
                    which++;
                    i = first;
                    same = true;
                }
            }
            return NONE;
        }

        int take(String words) {
            int which = wordOf(words);
            if (which != NONE) {
                step();
            }
            return which;
        }

        boolean takes(String word) {
            return take(word) != NONE;
        }

        boolean needs(String word) {
            return take(word) != NONE || fail();
        }

        boolean takesSign(char sign) {
            if (kind != sign) {
                return false;
            }
            step();
            return true;
        }

        boolean fail() {
            wrong = first;
            return false;
        }

        boolean failAt(int index) {
            wrong = index;
            return false;
        }

        int numberAhead(int least, int most) {
            boolean right = kind == FIGURES && behind - first <= 3 && value >= least && value <= most;
            return right ? value : NONE;
        }

        int takeNumber(int least, int most) {
            int number = numberAhead(least, most);
            if (number == NONE) {
                fail();
                return NONE;
            }
            step();
            return number;
        }

        int takeDays() {
            int days = 0;
            boolean right = kind == FIGURES && behind - first == DAYS;
            for (int i = 0; right && i < DAYS; i++) {
                int figure = byteAt(first + i) - '0';
                right = figure == 0 || figure == 1;
                days |= figure << i;
            }
            if (!right) {
                fail();
                return NONE;
            }
            step();
            return days;
        }
    }

    /** Reads a text of THE CITY into a city that is thrown away, if the text is wrong. */
    private static final class CityReader {
        static boolean read(Tape tape, City city) {
            tape.open();
            if (tape.isDone()) {
                return true;
            }
            for (int lines = 0; lines < CITY_LINES; lines++) {
                if (!readLine(tape, city)) {
                    return false;
                }
                if (tape.isDone()) {
                    return true;
                }
                if (!tape.takesSign(';')) {
                    return tape.fail();
                }
            }
            return tape.fail();
        }

        private static boolean readLine(Tape tape, City city) {
            int begin = tape.first;
            switch (tape.take("house person lean wander prop evening week")) {
                case 0:
                    return city.houses < HOUSES ? readHouse(tape, city) : tape.failAt(begin);
                case 1:
                    return city.people < PEOPLE ? readPerson(tape, city) : tape.failAt(begin);
                case 2:
                    return readLean(tape, city);
                case 3:
                    city.wander = tape.takeNumber(0, 100);
                    return city.wander != NONE;
                case 4:
                    city.prop = tape.takeNumber(1, 99);
                    return city.prop != NONE;
                case 5:
                    city.evening = tape.takeNumber(0, DAYS - 1);
                    return city.evening != NONE;
                case 6:
                    city.week = tape.takeNumber(0, 999);
                    return city.week != NONE;
                default:
                    return tape.fail();
            }
        }

        private static boolean readHouse(Tape tape, City city) {
            int weight = tape.needs("weight") ? tape.takeNumber(1, MOST_WEIGHT) : NONE;
            if (weight == NONE) {
                return false;
            }
            int firm = tape.needs("firm") ? tape.takeNumber(0, MOST_FIRM) : NONE;
            if (firm == NONE) {
                return false;
            }
            int ivy = tape.takes("ivy") ? tape.takeNumber(0, MOST_IVY) : 0;
            if (ivy == NONE) {
                return false;
            }
            int age = tape.takes("age") ? tape.takeNumber(0, MOST_AGE) : 0;
            return age != NONE && city.addHouse(weight, firm, ivy, age) != NONE;
        }

        private static boolean readLean(Tape tape, City city) {
            int house = readStanding(tape, city);
            if (house == NONE) {
                return false;
            }
            int second = tape.first;
            int other = readStanding(tape, city);
            if (other == NONE) {
                return false;
            }
            if (other == house) {
                return tape.failAt(second);
            }
            int part = tape.needs("part") ? tape.takeNumber(0, MOST_PART) : NONE;
            if (part == NONE) {
                return false;
            }
            city.setPart(house, other, part);
            return true;
        }

        private static boolean readPerson(Tape tape, City city) {
            int house = tape.needs("at") ? readStanding(tape, city) : NONE;
            if (house == NONE) {
                return false;
            }
            int hold = tape.needs("hold") ? tape.takeNumber(0, MOST_HOLD) : NONE;
            if (hold == NONE) {
                return false;
            }
            int days = tape.takes("on") ? tape.takeDays() : ALL_DAYS;
            return days != NONE && city.addPerson(house, hold, days);
        }

        private static int readStanding(Tape tape, City city) {
            int begin = tape.first;
            int house = tape.takeNumber(0, city.houses - 1);
            if (house != NONE && !city.isUp(house)) {
                tape.failAt(begin);
                return NONE;
            }
            return house;
        }
    }

    /** The latest rows: WEEK, EVENING, HOUSE, round, SAGGED, taken away or not. */
    private static final class Log {
        final int[] cells = new int[LOG_ROWS * LOG_WIDTH];
        int rows;

        void add(int week, int evening, int house, int round, int sagged, int away) {
            if (rows >= LOG_ROWS) {
                System.arraycopy(cells, LOG_WIDTH, cells, 0, (LOG_ROWS - 1) * LOG_WIDTH);
                rows = LOG_ROWS - 1;
            }
            int row = rows;
            rows++;
            set(row, 0, week);
            set(row, 1, evening);
            set(row, 2, house);
            set(row, 3, round);
            set(row, 4, sagged);
            set(row, 5, away);
        }

        private void set(int row, int what, int value) {
            int cell = row * LOG_WIDTH + what;
            if (cell >= 0 && cell < cells.length) {
                cells[cell] = value;
            }
        }

        int cell(int ago, int what) {
            if (ago < 0 || ago >= rows || what < 0 || what >= LOG_WIDTH) {
                return NONE;
            }
            int cell = (rows - 1 - ago) * LOG_WIDTH + what;
            return cell >= 0 && cell < cells.length ? cells[cell] : NONE;
        }

        void copyFrom(Log other) {
            rows = other.rows;
            System.arraycopy(other.cells, 0, cells, 0, cells.length);
        }
    }

    /** All that acts change and that can be gone back to, but for the law. */
    private static final class City {
        final int[] weight = new int[HOUSES];
        final int[] firm = new int[HOUSES];
        final int[] ivy = new int[HOUSES];
        final int[] age = new int[HOUSES];
        final int[] parts = new int[HOUSES * HOUSES];
        final int[] at = new int[PEOPLE];
        final int[] holds = new int[PEOPLE];
        final int[] days = new int[PEOPLE];
        final Log log = new Log();
        int houses;
        int people;
        // The HOUSES that are not FALLEN, as bits; leans and people are never AT others.
        int up;
        int evening;
        int week;
        int wander;
        int prop = 20;
        int texts;
        int seed = 1;

        void copyFrom(City other) {
            System.arraycopy(other.weight, 0, weight, 0, HOUSES);
            System.arraycopy(other.firm, 0, firm, 0, HOUSES);
            System.arraycopy(other.ivy, 0, ivy, 0, HOUSES);
            System.arraycopy(other.age, 0, age, 0, HOUSES);
            System.arraycopy(other.parts, 0, parts, 0, HOUSES * HOUSES);
            System.arraycopy(other.at, 0, at, 0, PEOPLE);
            System.arraycopy(other.holds, 0, holds, 0, PEOPLE);
            System.arraycopy(other.days, 0, days, 0, PEOPLE);
            log.copyFrom(other.log);
            houses = other.houses;
            people = other.people;
            up = other.up;
            evening = other.evening;
            week = other.week;
            wander = other.wander;
            prop = other.prop;
            texts = other.texts;
            seed = other.seed;
        }

        boolean isHouse(int house) {
            return house >= 0 && house < houses && house < HOUSES;
        }

        boolean isUp(int house) {
            return isHouse(house) && (up >> house & 1) == 1;
        }

        boolean isPerson(int person) {
            return person >= 0 && person < people && person < PEOPLE;
        }

        int addHouse(int heavy, int firmness, int ivied, int old) {
            int number = houses;
            if (number < 0 || number >= HOUSES) {
                return NONE;
            }
            weight[number] = heavy;
            firm[number] = firmness;
            ivy[number] = ivied;
            age[number] = old;
            up |= 1 << number;
            houses++;
            return number;
        }

        boolean addPerson(int house, int held, int week) {
            int number = people;
            if (number < 0 || number >= PEOPLE) {
                return false;
            }
            at[number] = house;
            holds[number] = held;
            days[number] = week;
            people++;
            return true;
        }

        int partOf(int house, int other) {
            return isHouse(house) && isHouse(other) ? parts[house * HOUSES + other] : 0;
        }

        void setPart(int house, int other, int part) {
            if (isHouse(house) && isHouse(other)) {
                parts[house * HOUSES + other] = part;
            }
        }

        void marry(int house, int other) {
            setPart(house, other, Math.min(MOST_PART, partOf(house, other) + 1));
            setPart(other, house, Math.min(MOST_PART, partOf(other, house) + 1));
        }

        int cutIvy(int house) {
            if (!isHouse(house)) {
                return 0;
            }
            int before = ivy[house];
            ivy[house] = 0;
            return before;
        }

        int priceOf(int house) {
            return isHouse(house) ? Math.max(0, firm[house] / 10 + ivy[house] - age[house] / 5) : 0;
        }

        int gateOf(int house) {
            int found = 0;
            for (int p = 0; p < PEOPLE; p++) {
                if (isPerson(p) && at[p] == house) {
                    found |= 1 << p;
                }
            }
            return found;
        }

        int placeOf(int person) {
            return isPerson(person) ? at[person] : NONE;
        }

        int holdOf(int person) {
            return isPerson(person) ? holds[person] : 0;
        }

        int daysOf(int person) {
            return isPerson(person) ? days[person] : 0;
        }

        boolean isThere(int person, int day) {
            return isPerson(person) && day >= 0 && day < DAYS && (days[person] >> day & 1) == 1;
        }

        int holdOfAll() {
            int sum = 0;
            for (int p = 0; p < PEOPLE; p++) {
                sum += placeOf(p) != NONE ? holdOf(p) : 0;
            }
            return sum;
        }

        void put(int person, int house) {
            if (isPerson(person)) {
                at[person] = house;
            }
        }

        boolean setDay(int person, int day, boolean is) {
            boolean changes = isThere(person, day) != is;
            if (changes && isPerson(person)) {
                days[person] ^= 1 << day;
            }
            return changes;
        }

        /** FALLEN, by a FALL or taken away: nobody LEANS on it, nor it on any, and nobody is AT it. */
        void takeDown(int house) {
            if (!isHouse(house)) {
                return;
            }
            up &= ~(1 << house);
            for (int h = 0; h < HOUSES; h++) {
                parts[house * HOUSES + h] = 0;
                parts[h * HOUSES + house] = 0;
            }
            for (int p = 0; p < PEOPLE; p++) {
                if (at[p] == house) {
                    at[p] = NONE;
                }
            }
        }

        int leansOn(int house) {
            int found = 0;
            for (int h = 0; h < HOUSES; h++) {
                if (partOf(house, h) > 0) {
                    found |= 1 << h;
                }
            }
            return found;
        }

        int touching(int house) {
            int found = leansOn(house);
            for (int h = 0; h < HOUSES; h++) {
                if (partOf(h, house) > 0) {
                    found |= 1 << h;
                }
            }
            return found;
        }

        /** All that are reached by leans from a house; a turn finds one more at least, so eight are enough. */
        int onward(int house) {
            int found = leansOn(house);
            for (int turn = 0; turn < HOUSES; turn++) {
                for (int h = 0; h < HOUSES; h++) {
                    if ((found >> h & 1) == 1) {
                        found |= leansOn(h);
                    }
                }
            }
            return found;
        }

        /** The piece of a house, if there were but those among which it is looked for. */
        int pieceOf(int house, int among) {
            int found = 1 << house & among;
            for (int turn = 0; turn < HOUSES; turn++) {
                for (int h = 0; h < HOUSES; h++) {
                    if ((found >> h & 1) == 1) {
                        found |= touching(h) & among;
                    }
                }
            }
            return found;
        }

        int draw() {
            seed = 1103515245 * seed + 12345;
            return seed >>> 16 & 32767;
        }

        /** The house at a place among those that are not FALLEN. */
        int upAt(int place) {
            int left = place;
            for (int h = 0; h < HOUSES; h++) {
                if (isUp(h)) {
                    if (left == 0) {
                        return h;
                    }
                    left--;
                }
            }
            return NONE;
        }
    }

    /** THE LAW: lines, each with its condition as a row of steps behind one another (operands ahead). */
    private static final class Law {
        final int[] kind = new int[LAW_LINES];
        final int[] amount = new int[LAW_LINES];
        final int[] begin = new int[LAW_LINES];
        final int[] behind = new int[LAW_LINES];
        // A sign of the text makes one step at most.
        final int[] steps = new int[TAPE_BYTES];
        final int[] numbers = new int[TAPE_BYTES];
        final int[] stack = new int[STACK];
        int stepCount;
        // NONE: there has been no text yet.
        int lines = NONE;

        void copyFrom(Law other) {
            lines = other.lines;
            stepCount = other.stepCount;
            System.arraycopy(other.kind, 0, kind, 0, LAW_LINES);
            System.arraycopy(other.amount, 0, amount, 0, LAW_LINES);
            System.arraycopy(other.begin, 0, begin, 0, LAW_LINES);
            System.arraycopy(other.behind, 0, behind, 0, LAW_LINES);
            System.arraycopy(other.steps, 0, steps, 0, TAPE_BYTES);
            System.arraycopy(other.numbers, 0, numbers, 0, TAPE_BYTES);
        }

        void clear() {
            lines = 0;
            stepCount = 0;
        }

        void openLine(int which, int n) {
            if (lines >= 0 && lines < LAW_LINES) {
                kind[lines] = which;
                amount[lines] = n;
                begin[lines] = stepCount;
            }
        }

        void closeLine() {
            if (lines >= 0 && lines < LAW_LINES) {
                behind[lines] = stepCount;
                lines++;
            }
        }

        boolean addStep(int step, int number) {
            if (stepCount >= 0 && stepCount < TAPE_BYTES) {
                steps[stepCount] = step;
                numbers[stepCount] = number;
                stepCount++;
            }
            return true;
        }

        /** The sum of N of all lines of a kind that hold. */
        int sumOf(int which, int[] facts) {
            int sum = 0;
            for (int i = 0; i < lines && i < LAW_LINES; i++) {
                if (kind[i] == which && holds(begin[i], behind[i], facts)) {
                    sum += amount[i];
                }
            }
            return sum;
        }

        private boolean holds(int first, int end, int[] facts) {
            int top = 0;
            for (int i = first; i >= 0 && i < end && i < TAPE_BYTES; i++) {
                int step = steps[i];
                if (step == OP_NOT) {
                    if (top >= 1 && top <= STACK) {
                        stack[top - 1] = 1 - stack[top - 1];
                    }
                } else if (step > OP_NOT) {
                    if (top >= 2 && top <= STACK) {
                        stack[top - 2] = joined(step, stack[top - 2], stack[top - 1]);
                        top--;
                    }
                } else if (top < STACK) {
                    stack[top] = step >= 0 && step < facts.length ? facts[step] : numbers[i];
                    top++;
                }
            }
            return top == 0 || stack[0] != 0;
        }

        private static int joined(int step, int left, int right) {
            switch (step) {
                case OP_PLUS: return left + right;
                case OP_LESS: return left < right ? 1 : 0;
                case OP_MORE: return left > right ? 1 : 0;
                case OP_AND: return left & right;
                default: return left | right;
            }
        }
    }

    /** Reads THE LAW into a draft that is thrown away, if the text is wrong. */
    private static final class LawReader {
        static boolean read(Tape tape, Law law) {
            tape.open();
            law.clear();
            if (tape.isDone()) {
                return true;
            }
            for (int lines = 0; lines < LAW_LINES; lines++) {
                if (!readLine(tape, law)) {
                    return false;
                }
                if (tape.isDone()) {
                    return true;
                }
                if (!tape.takesSign(';')) {
                    return tape.fail();
                }
            }
            return tape.fail();
        }

        private static boolean readLine(Tape tape, Law law) {
            int which = tape.take("firm soft grow");
            if (which == NONE) {
                return tape.fail();
            }
            int n = tape.takeNumber(0, 99);
            if (n == NONE) {
                return false;
            }
            law.openLine(which, n);
            if (tape.takes("if") && !readChoice(tape, law, 0)) {
                return false;
            }
            law.closeLine();
            return true;
        }

        private static boolean readChoice(Tape tape, Law law, int deep) {
            boolean right = readAll(tape, law, deep);
            for (int i = 0; right && i < TAPE_BYTES && tape.takes("or"); i++) {
                right = readAll(tape, law, deep) && law.addStep(OP_OR, 0);
            }
            return right;
        }

        private static boolean readAll(Tape tape, Law law, int deep) {
            boolean right = readAtom(tape, law, deep);
            for (int i = 0; right && i < TAPE_BYTES && tape.takes("and"); i++) {
                right = readAtom(tape, law, deep) && law.addStep(OP_AND, 0);
            }
            return right;
        }

        private static boolean readAtom(Tape tape, Law law, int deep) {
            boolean isNot = tape.wordOf("not") != NONE;
            boolean isOpen = tape.isSign('(');
            if ((isNot || isOpen) && deep >= DEEPEST) {
                return tape.fail();
            }
            if (isNot) {
                tape.step();
                return readAtom(tape, law, deep + 1) && law.addStep(OP_NOT, 0);
            }
            if (isOpen) {
                tape.step();
                return readChoice(tape, law, deep + 1) && (tape.takesSign(')') || tape.fail());
            }
            int atom = tape.take("leaning leant held");
            if (atom != NONE) {
                return law.addStep(FACT_LEANING + atom, 0);
            }
            if (!readSum(tape, law)) {
                return false;
            }
            boolean less = tape.isSign('<');
            if (!less && !tape.isSign('>')) {
                return tape.fail();
            }
            tape.step();
            return readSum(tape, law) && law.addStep(less ? OP_LESS : OP_MORE, 0);
        }

        private static boolean readSum(Tape tape, Law law) {
            for (int parts = 0; parts < TAPE_BYTES; parts++) {
                int fact = tape.wordOf("house weight ivy age evening press");
                int n = tape.numberAhead(0, MOST_NUMBER);
                if (fact == NONE && n == NONE) {
                    return tape.fail();
                }
                law.addStep(fact == NONE ? OP_NUMBER : fact, n);
                if (parts > 0) {
                    law.addStep(OP_PLUS, 0);
                }
                tape.step();
                if (!tape.isSign('+')) {
                    return true;
                }
                tape.step();
            }
            return tape.fail();
        }
    }

    /** What the houses of a city bear, stand by and sag, as it was measured last (0 of those FALLEN). */
    private static final class Strain {
        final int[] press = new int[HOUSES];
        final int[] bears = new int[HOUSES];
        final int[] stands = new int[HOUSES];
        final int[] sags = new int[HOUSES];
        final int[] grows = new int[HOUSES];
        private final int[] given = new int[HOUSES];
        private final int[] allParts = new int[HOUSES];
        private final int[] helped = new int[HOUSES];
        private final int[] facts = new int[FACTS];
        private int leant;
        private int held;

        void measure(City city, Law law, int evening) {
            measurePress(city);
            countHelp(city, evening);
            for (int h = 0; h < HOUSES; h++) {
                bears[h] = 0;
                stands[h] = 0;
                sags[h] = 0;
                grows[h] = 0;
                if (city.isUp(h)) {
                    noteFacts(city, h, evening);
                    bears[h] = press[h] + (allParts[h] == 0 ? city.weight[h] : 0);
                    stands[h] = Math.max(0, city.firm[h] + city.ivy[h] + helped[h]
                            + law.sumOf(FIRM_LINE, facts) - law.sumOf(SOFT_LINE, facts));
                    sags[h] = bears[h] - stands[h];
                    grows[h] = law.sumOf(GROW_LINE, facts);
                }
            }
        }

        void measurePress(City city) {
            countParts(city);
            for (int h = 0; h < HOUSES; h++) {
                press[h] = 0;
            }
            boolean changes = true;
            // A turn that changes nothing is followed by none that does.
            for (int turn = 0; changes && turn < PRESS_TURNS; turn++) {
                changes = pressOnce(city);
            }
        }

        private void countParts(City city) {
            leant = 0;
            for (int h = 0; h < HOUSES; h++) {
                int sum = 0;
                for (int on = 0; on < HOUSES; on++) {
                    int part = city.parts[h * HOUSES + on];
                    sum += part;
                    leant |= part > 0 ? 1 << on : 0;
                }
                allParts[h] = sum;
            }
        }

        private boolean pressOnce(City city) {
            for (int h = 0; h < HOUSES; h++) {
                given[h] = 0;
            }
            for (int h = 0; h < HOUSES; h++) {
                int all = allParts[h];
                if (all > 0) {
                    int half = (city.weight[h] + press[h]) / 2;
                    for (int on = 0; on < HOUSES; on++) {
                        given[on] += half * city.parts[h * HOUSES + on] / all;
                    }
                }
            }
            boolean changes = false;
            for (int h = 0; h < HOUSES; h++) {
                changes |= press[h] != given[h];
                press[h] = given[h];
            }
            return changes;
        }

        private void countHelp(City city, int evening) {
            held = 0;
            for (int h = 0; h < HOUSES; h++) {
                helped[h] = 0;
            }
            for (int p = 0; p < PEOPLE; p++) {
                int house = city.placeOf(p);
                if (city.isUp(house) && city.isThere(p, evening)) {
                    helped[house] += city.holdOf(p);
                    held |= 1 << house;
                }
            }
        }

        private void noteFacts(City city, int house, int evening) {
            if (!city.isHouse(house)) {
                return;
            }
            facts[FACT_HOUSE] = house;
            facts[FACT_WEIGHT] = city.weight[house];
            facts[FACT_IVY] = city.ivy[house];
            facts[FACT_AGE] = city.age[house];
            facts[FACT_EVENING] = evening;
            facts[FACT_PRESS] = press[house];
            facts[FACT_LEANING] = allParts[house] > 0 ? 1 : 0;
            facts[FACT_LEANT] = leant >> house & 1;
            facts[FACT_HELD] = held >> house & 1;
        }

        int allBear() {
            int sum = 0;
            for (int h = 0; h < HOUSES; h++) {
                sum += bears[h];
            }
            return sum;
        }

        int saggingSet() {
            int found = 0;
            for (int h = 0; h < HOUSES; h++) {
                found |= sags[h] > 0 ? 1 << h : 0;
            }
            return found;
        }

        int greatestSag(int among) {
            boolean any = false;
            int greatest = 0;
            for (int h = 0; h < HOUSES; h++) {
                if ((among >> h & 1) == 1 && (!any || sags[h] > greatest)) {
                    any = true;
                    greatest = sags[h];
                }
            }
            return greatest;
        }
    }

    /** What evenings do to a city. */
    private static final class Course {
        final Strain strain = new Strain();
        int rounds;

        /** Those FALLEN by it, as bits. Behind it strain is that of the city as it stands then. */
        int fall(City city, Law law, int evening) {
            int fallen = 0;
            rounds = 0;
            // Every round but the last one takes a house at least.
            for (int turn = 0; turn <= HOUSES; turn++) {
                strain.measure(city, law, evening);
                int sagging = strain.saggingSet();
                if (sagging == 0) {
                    return fallen;
                }
                rounds++;
                fallen |= sagging;
                fell(city, sagging, evening);
            }
            return fallen;
        }

        private void fell(City city, int sagging, int evening) {
            for (int h = 0; h < HOUSES; h++) {
                if ((sagging >> h & 1) == 1) {
                    city.log.add(city.week, evening, h, rounds, strain.sags[h], 0);
                    city.takeDown(h);
                }
            }
        }

        void run(City city, Law law, int n, boolean wandering) {
            for (int i = 0; i < n && i < MOST_EVENINGS; i++) {
                pass(city, law, wandering);
            }
        }

        void pass(City city, Law law, boolean wandering) {
            fall(city, law, city.evening);
            growAll(city);
            if (wandering) {
                wanderAll(city);
            }
            city.evening++;
            if (city.evening >= DAYS) {
                city.evening = 0;
                city.week = Math.min(MOST_WEEK, city.week + 1);
            }
        }

        /** What one grows by hangs on itself and on PRESS alone, and PRESS on no IVY and AGE: strain still holds. */
        private void growAll(City city) {
            for (int h = 0; h < HOUSES; h++) {
                if (city.isUp(h)) {
                    city.ivy[h] = Math.min(MOST_IVY, city.ivy[h] + strain.grows[h]);
                    if (city.evening == 0) {
                        city.age[h] = Math.min(MOST_AGE, city.age[h] + 1);
                    }
                }
            }
        }

        private static void wanderAll(City city) {
            int many = Integer.bitCount(city.up);
            for (int p = 0; p < PEOPLE; p++) {
                if (many > 0 && city.placeOf(p) != NONE && city.draw() % 100 < city.wander) {
                    city.put(p, city.upAt(city.draw() % many));
                }
            }
        }
    }

    /** Looks through all orders in which told houses can be taken away. */
    private static final class Razing {
        final int[] best = new int[MOST_ORDER];
        int bestSteps;
        private final City[] stages = new City[MOST_ORDER + 1];
        private final int[] path = new int[MOST_ORDER];

        Razing() {
            for (int i = 0; i < stages.length; i++) {
                stages[i] = new City();
            }
        }

        void solve(City city, Law law, Course course, int told) {
            bestSteps = NONE;
            City first = stages[0];
            if (first != null) {
                first.copyFrom(city);
                search(law, course, told, 0, 0);
            }
        }

        /** By the lesser house first, so that of several best orders the first one is kept. */
        private void search(Law law, Course course, int left, int place, int steps) {
            if (left == 0) {
                keep(steps);
                return;
            }
            if (place < 0 || place >= MOST_ORDER) {
                return;
            }
            City before = stages[place];
            City after = stages[place + 1];
            if (before == null || after == null) {
                return;
            }
            for (int h = 0; h < HOUSES; h++) {
                if ((left >> h & 1) == 1) {
                    int fallen = 0;
                    after.copyFrom(before);
                    if (after.isUp(h)) {
                        after.takeDown(h);
                        fallen = 1 + Integer.bitCount(course.fall(after, law, after.evening));
                    }
                    path[place] = h;
                    search(law, course, left & ~(1 << h), place + 1, steps + place * fallen);
                }
            }
        }

        private void keep(int steps) {
            if (steps > bestSteps) {
                bestSteps = steps;
                System.arraycopy(path, 0, best, 0, MOST_ORDER);
            }
        }
    }

    /** Puts people to houses so that most is held. */
    private static final class Posts {
        private static final int SETS = 1 << HOUSES;
        // Of each person and set of houses that are taken: the most that it and all behind it can hold.
        private final int[] most = new int[(PEOPLE + 1) * SETS];
        private final int[] gains = new int[PEOPLE * HOUSES];
        private final int[] place = new int[PEOPLE];

        /** How much is held at most of what sags without any people. */
        int solve(City city, Strain strain) {
            for (int p = 0; p < PEOPLE; p++) {
                for (int h = 0; h < HOUSES; h++) {
                    gains[p * HOUSES + h] = gain(city, strain, p, h);
                }
            }
            for (int p = PEOPLE - 1; p >= 0; p--) {
                for (int taken = 0; taken < SETS; taken++) {
                    // Those ahead can't have taken more than one house each.
                    if (Integer.bitCount(taken) <= p) {
                        most[p * SETS + taken] = mostOf(p, taken);
                    }
                }
            }
            placeAll();
            return most[0];
        }

        private static int gain(City city, Strain strain, int person, int house) {
            if (house < 0 || house >= HOUSES || !city.isUp(house) || !city.isThere(person, city.evening)) {
                return 0;
            }
            return Math.max(0, Math.min(city.holdOf(person), strain.sags[house]));
        }

        private int mostOf(int person, int taken) {
            int best = rest(person + 1, taken);
            for (int h = 0; h < HOUSES; h++) {
                int gain = gains[person * HOUSES + h];
                if (gain > 0 && (taken >> h & 1) == 0) {
                    best = Math.max(best, gain + rest(person + 1, taken | 1 << h));
                }
            }
            return best;
        }

        private int rest(int person, int taken) {
            int cell = person * SETS + taken;
            return cell >= 0 && cell < most.length ? most[cell] : 0;
        }

        private void placeAll() {
            int taken = 0;
            for (int p = 0; p < PEOPLE; p++) {
                int house = firstPlace(p, taken);
                place[p] = house;
                taken |= house != NONE ? 1 << house : 0;
            }
        }

        /** A place by which nothing is held is never the first one: none is ahead of it and leaves more to others. */
        private int firstPlace(int person, int taken) {
            int all = rest(person, taken);
            for (int h = 0; h < HOUSES && rest(person + 1, taken) != all; h++) {
                int gain = gains[person * HOUSES + h];
                if (gain > 0 && (taken >> h & 1) == 0 && gain + rest(person + 1, taken | 1 << h) == all) {
                    return h;
                }
            }
            return NONE;
        }

        int placeOf(int person) {
            return person >= 0 && person < PEOPLE ? place[person] : NONE;
        }
    }

    /** Which leans, each alone, may have broken, so that the PRESS that is felt fits. */
    private static final class Breaks {
        private static final int NO_LEAN = HOUSES * HOUSES;
        final int[] lean = new int[NO_LEAN + 1];
        int count;
        private final int[] presses = new int[(NO_LEAN + 1) * HOUSES];
        private final int[] rows = new int[MOST_FELT];
        private int told;

        void tell(Tape tape, int bytes) {
            told = 0;
            for (int i = 0; i < bytes && i < MOST_FELT; i++) {
                rows[i] = tape.byteAt(i);
                told++;
            }
        }

        void collect(City city, City probe, Strain strain) {
            count = 0;
            for (int which = 0; which <= NO_LEAN; which++) {
                int house = which / HOUSES;
                int other = which % HOUSES;
                if (which == NO_LEAN || city.partOf(house, other) > 0) {
                    probe.copyFrom(city);
                    // No house is the ninth: of none nothing is taken away.
                    probe.setPart(house, other, 0);
                    strain.measurePress(probe);
                    keepIfFits(which, strain.press);
                }
            }
        }

        private void keepIfFits(int which, int[] press) {
            for (int i = 0; i + 1 < told && i + 1 < MOST_FELT; i += 2) {
                int house = rows[i];
                int is = house >= 0 && house < press.length ? press[house] : 0;
                if (Math.abs(is - rows[i + 1]) > 1) {
                    return;
                }
            }
            if (count < 0 || count > NO_LEAN) {
                return;
            }
            lean[count] = which;
            for (int h = 0; h < HOUSES && h < press.length; h++) {
                presses[count * HOUSES + h] = press[h];
            }
            count++;
        }

        int bestTap(int among) {
            int best = NONE;
            int least = NO_LEAN + 2;
            for (int h = 0; h < HOUSES; h++) {
                int part = (among >> h & 1) == 1 ? greatestPart(h) : least;
                if (part < least) {
                    least = part;
                    best = h;
                }
            }
            return best;
        }

        private int greatestPart(int house) {
            int greatest = 0;
            for (int i = 0; i < count; i++) {
                int alike = 0;
                for (int j = 0; j < count; j++) {
                    alike += pressOf(i, house) == pressOf(j, house) ? 1 : 0;
                }
                greatest = Math.max(greatest, alike);
            }
            return greatest;
        }

        private int pressOf(int fit, int house) {
            int cell = fit * HOUSES + house;
            return cell >= 0 && cell < presses.length ? presses[cell] : 0;
        }
    }
}
