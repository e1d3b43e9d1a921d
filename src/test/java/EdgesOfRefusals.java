import java.util.NoSuchElementException;

/** Each call that throws: what it throws, of several exceptions the one told first, and that nothing else has changed by it. */
public final class EdgesOfRefusals {
    private static final Class<IndexOutOfBoundsException> INDEX = IndexOutOfBoundsException.class;
    private static final Class<IllegalArgumentException> ARGUMENT = IllegalArgumentException.class;
    private static final Class<IllegalStateException> STATE = IllegalStateException.class;
    private static final Class<NoSuchElementException> ELEMENT = NoSuchElementException.class;
    private static final int MAX = Integer.MAX_VALUE;
    private static final int MIN = Integer.MIN_VALUE;

    private interface Call {
        void on(LeanCity x);
    }

    public static void main(String[] args) {
        told();
        acts();
        falls();
        tapes();
        leans();
        people();
        times();
        log();
        firstOfSeveral();
        emptyCity();
        fullCity();
        texts();
        Check.done();
    }

    /** Three houses, 1 of them FALLEN, two people, a law, an image, acts, a row of the log, a seed, and a text on the tape. */
    private static LeanCity some() {
        LeanCity x = Check.city("house weight 40 firm 90 ivy 3 age 9;house weight 20 firm 90;house weight 10 firm 90 ivy 2;lean 0 1 part 4;"
                + "lean 2 0 part 3;person at 1 hold 4 on 0111110;person at 0 hold 25;wander 30;prop 7;evening 5;week 8");
        Check.law(x, "grow 1 if leant;firm 2 if held");
        x.trim(2);
        x.image();
        x.seed(4711);
        x.come(1, 3, false);
        x.raze(1);
        x.wed(0, 2);
        Check.tape(x, "week 77");
        return x;
    }

    /** The tape is not used by it: its text can still be read behind all that is looked at. */
    private static void refuses(String call, Class<? extends RuntimeException> due, Call run) {
        LeanCity x = some();
        Check.fails(call, due, () -> run.on(x));
        LeanCity y = some();
        Check.is("all behind " + call, State.deep(x), State.deep(y));
        Check.is("the tape behind " + call, x.city(), 2);
        Check.is("what it tells behind " + call, x.count(5), 77);
    }

    /** It uses the tape up, and that alone. */
    private static void refusesTape(String call, Class<? extends RuntimeException> due, Call run, int... tape) {
        LeanCity x = some();
        Check.tape(x, tape);
        Check.fails(call, due, () -> run.on(x));
        LeanCity y = some();
        y.end(0);
        Check.is("all behind " + call, State.deep(x), State.deep(y));
    }

    private static void told() {
        Check.says("7: IndexOutOfBoundsException: there is no such HOUSE");
        for (int h : new int[] {-1, 3, MIN, MAX}) {
            refuses("house(" + h + ", 0)", INDEX, x -> x.house(h, 0));
        }
        Check.is("the first", some().house(0, 0), 40);
        Check.is("the last", some().house(2, 0), 10);
        Check.says("7: a HOUSE that is FALLEN is one, too");
        Check.is("weight", some().house(1, 0), 20);
        Check.is("press", some().house(1, 5), 0);
        Check.says("7: NoSuchElementException: another what");
        for (int what : new int[] {-1, 13, MIN, MAX}) {
            refuses("house(0, " + what + ")", ELEMENT, x -> x.house(0, what));
            refuses("house(1, " + what + ") of one FALLEN", ELEMENT, x -> x.house(1, what));
        }
        Check.is("what 0", some().house(0, 0), 40);
        Check.is("what 12", some().house(0, 12), 2);

        Check.says("8: IndexOutOfBoundsException: there is no such HOUSE");
        for (int h : new int[] {-1, 3, MIN, MAX}) {
            refuses("part(" + h + ", 0)", INDEX, x -> x.part(h, 0));
            refuses("part(0, " + h + ")", INDEX, x -> x.part(0, h));
            refuses("part(" + h + ", " + h + ")", INDEX, x -> x.part(h, h));
        }
        Check.says("8: 0 also of one HOUSE, and of those FALLEN");
        for (int h = 0; h < 3; h++) {
            Check.is("of itself", some().part(h, h), 0);
            Check.is("on one FALLEN", some().part(h, 1), 0);
            Check.is("of one FALLEN", some().part(1, h), 0);
        }
        Check.is("of two", some().part(2, 0), 4);

        Check.says("9: IndexOutOfBoundsException: there is no such person");
        for (int p : new int[] {-1, 2, MIN, MAX}) {
            refuses("person(" + p + ", 0)", INDEX, x -> x.person(p, 0));
        }
        Check.is("the first", some().person(0, 1), 4);
        Check.is("the last", some().person(1, 1), 25);
        Check.says("9: NoSuchElementException: another what");
        for (int what : new int[] {-1, 4, MIN, MAX}) {
            refuses("person(0, " + what + ")", ELEMENT, x -> x.person(0, what));
        }
        Check.is("what 0", some().person(0, 0), LeanCity.NONE);
        Check.is("what 3", some().person(0, 3), 0);
    }

    private static void acts() {
        Check.says("10: IllegalArgumentException: they are none (1 to 70)");
        for (int n : new int[] {0, -1, 71, MIN, MAX}) {
            refuses("evenings(" + n + ")", ARGUMENT, x -> x.evenings(n));
        }
        Check.is("1", some().evenings(1), 0);
        LeanCity seventy = some();
        Check.is("70", seventy.evenings(70), 0);
        Check.is("70 are 10 weeks", seventy.count(5), 18);
        Check.is("and no EVENING more", seventy.count(4), 5);

        Check.says("11: IndexOutOfBoundsException: there is no such HOUSE");
        for (int h : new int[] {-1, 3, MIN, MAX}) {
            refuses("build on " + h, INDEX, x -> x.build(1, 1, h, 1));
        }
        Check.says("11: IllegalArgumentException: WEIGHT (1 to 99) is none");
        for (int n : new int[] {0, 100, -1, MIN, MAX}) {
            refuses("build of weight " + n, ARGUMENT, x -> x.build(n, 1, 0, 1));
        }
        Check.is("1", some().build(1, 1, 0, 1), 3);
        Check.is("99", some().build(99, 1, 0, 1), 3);
        Check.says("11: IllegalArgumentException: FIRM (0 to 999) is none");
        for (int n : new int[] {-1, 1000, MIN, MAX}) {
            refuses("build of firm " + n, ARGUMENT, x -> x.build(1, n, 0, 1));
        }
        Check.is("0", some().build(1, 0, 0, 1), 3);
        Check.is("999", some().build(1, 999, 0, 1), 3);
        Check.says("11: IllegalArgumentException: PART (1 to 9) is none");
        for (int n : new int[] {0, 10, -1, MIN, MAX}) {
            refuses("build by part " + n, ARGUMENT, x -> x.build(1, 1, 0, n));
        }
        Check.is("1", some().build(1, 1, 0, 1), 3);
        Check.is("9", some().build(1, 1, 0, 9), 3);
        Check.says("11: IllegalStateException: the one on which it LEANS is FALLEN");
        refuses("build on one FALLEN", STATE, x -> x.build(1, 1, 1, 1));

        Check.says("12: IndexOutOfBoundsException: there is no such HOUSE");
        for (int h : new int[] {-1, 3, MIN, MAX}) {
            refuses("lean(" + h + ", 0, 1)", INDEX, x -> x.lean(h, 0, 1));
            refuses("lean(0, " + h + ", 1)", INDEX, x -> x.lean(0, h, 1));
        }
        Check.says("12: IllegalArgumentException: both are one");
        refuses("lean(0, 0, 1)", ARGUMENT, x -> x.lean(0, 0, 1));
        refuses("lean(2, 2, 0)", ARGUMENT, x -> x.lean(2, 2, 0));
        Check.says("12: IllegalArgumentException: the PART is none (0 to 9)");
        for (int n : new int[] {-1, 10, MIN, MAX}) {
            refuses("lean(0, 2, " + n + ")", ARGUMENT, x -> x.lean(0, 2, n));
        }
        Check.is("0", some().lean(0, 2, 0), 1);
        Check.is("9", some().lean(0, 2, 9), 1);
        Check.says("12: IllegalStateException: one of both is FALLEN");
        refuses("lean(1, 0, 1)", STATE, x -> x.lean(1, 0, 1));
        refuses("lean(0, 1, 1)", STATE, x -> x.lean(0, 1, 1));
        refuses("lean(0, 1, 0)", STATE, x -> x.lean(0, 1, 0));

        Check.says("13: IndexOutOfBoundsException: there is no such HOUSE");
        for (int h : new int[] {-1, 3, MIN, MAX}) {
            refuses("wed(" + h + ", 0)", INDEX, x -> x.wed(h, 0));
            refuses("wed(0, " + h + ")", INDEX, x -> x.wed(0, h));
        }
        Check.says("13: IllegalArgumentException: both are one");
        refuses("wed(2, 2)", ARGUMENT, x -> x.wed(2, 2));
        Check.says("13: IllegalStateException: one of both is FALLEN");
        refuses("wed(1, 0)", STATE, x -> x.wed(1, 0));
        refuses("wed(0, 1)", STATE, x -> x.wed(0, 1));

        Check.says("14: IndexOutOfBoundsException: there is no such HOUSE");
        for (int h : new int[] {-1, 3, MIN, MAX}) {
            refuses("trim(" + h + ")", INDEX, x -> x.trim(h));
        }
        Check.says("14: IllegalStateException: it is FALLEN");
        refuses("trim(1)", STATE, x -> x.trim(1));

        Check.says("15: IndexOutOfBoundsException: there is no such person, HOUSE");
        for (int n : new int[] {-1, 2, MIN, MAX}) {
            refuses("move(" + n + ", 0)", INDEX, x -> x.move(n, 0));
        }
        for (int h : new int[] {-1, 3, MIN, MAX}) {
            refuses("move(0, " + h + ")", INDEX, x -> x.move(0, h));
        }
        Check.says("15: IllegalStateException: the HOUSE is FALLEN");
        refuses("move(0, 1)", STATE, x -> x.move(0, 1));
        refuses("move(1, 1)", STATE, x -> x.move(1, 1));

        Check.says("16: IndexOutOfBoundsException: there is no such person, EVENING");
        for (int p : new int[] {-1, 2, MIN, MAX}) {
            refuses("come(" + p + ", 0)", INDEX, x -> x.come(p, 0, true));
        }
        for (int e : new int[] {-1, 7, 31, 32, MIN, MAX}) {
            refuses("come(0, " + e + ")", INDEX, x -> x.come(0, e, true));
            refuses("come(0, " + e + ") no more", INDEX, x -> x.come(0, e, false));
        }
        Check.is("EVENING 0", some().come(0, 0, true), true);
        Check.is("EVENING 6", some().come(0, 6, true), true);

        Check.says("17: IndexOutOfBoundsException: there is no such HOUSE");
        for (int h : new int[] {-1, 3, MIN, MAX}) {
            refuses("raze(" + h + ")", INDEX, x -> x.raze(h));
        }
        Check.says("17: IllegalStateException: it is FALLEN");
        refuses("raze(1)", STATE, x -> x.raze(1));
    }

    private static void falls() {
        Check.says("18, 19, 24: IndexOutOfBoundsException: there is no such EVENING");
        for (int e : new int[] {-1, 7, MIN, MAX}) {
            refuses("falls(" + e + ")", INDEX, x -> x.falls(e));
            refuses("rounds(" + e + ")", INDEX, x -> x.rounds(e));
            refuses("props(" + e + ")", INDEX, x -> x.props(e));
        }
        for (int e : new int[] {0, 6}) {
            Check.is("falls(" + e + ")", some().falls(e), 0);
            Check.is("rounds(" + e + ")", some().rounds(e), 0);
            Check.is("props(" + e + ")", some().props(e), 0);
        }
        Check.says("20: IndexOutOfBoundsException: there is no such HOUSE");
        for (int h : new int[] {-1, 3, MIN, MAX}) {
            refuses("pulls(" + h + ")", INDEX, x -> x.pulls(h));
        }
        Check.says("20: IllegalStateException: it is FALLEN");
        refuses("pulls(1)", STATE, x -> x.pulls(1));
    }

    private static void tapes() {
        Check.says("25, 26: IllegalArgumentException: the TAPE is not that: there is no such HOUSE");
        for (int[] tape : new int[][] {{3}, {255}, {0, 3}, {3, 0}, {2, 0, 128}}) {
            refusesTape("order", ARGUMENT, x -> x.order(0), tape);
            refusesTape("means", ARGUMENT, x -> x.means(), tape);
        }
        Check.says("25, 26: one is FALLEN");
        for (int[] tape : new int[][] {{1}, {0, 1}, {1, 2}}) {
            refusesTape("order", ARGUMENT, x -> x.order(0), tape);
            refusesTape("means", ARGUMENT, x -> x.means(), tape);
        }
        Check.says("25, 26: one is told twice");
        for (int[] tape : new int[][] {{0, 0}, {0, 2, 0}, {2, 0, 0}}) {
            refusesTape("order", ARGUMENT, x -> x.order(0), tape);
            refusesTape("means", ARGUMENT, x -> x.means(), tape);
        }
        Check.says("25, 26: whatever k is");
        for (int k : new int[] {-1, 5, MIN, MAX}) {
            refusesTape("order(" + k + ")", ARGUMENT, x -> x.order(k), 3);
        }
        Check.says("27, 28: IllegalArgumentException: the TAPE is not that: there is no such HOUSE");
        for (int[] tape : new int[][] {{3, 0}, {255, 0}, {0, 0, 3, 0}, {128, 9, 0, 0}}) {
            refusesTape("broken", ARGUMENT, x -> x.broken(false), tape);
            refusesTape("broken", ARGUMENT, x -> x.broken(true), tape);
            refusesTape("tap", ARGUMENT, x -> x.tap(), tape);
        }
        Check.says("27, 28: of each two bytes");
        for (int[] tape : new int[][] {{0}, {0, 0, 0}, new int[39]}) {
            refusesTape("broken", ARGUMENT, x -> x.broken(false), tape);
            refusesTape("tap", ARGUMENT, x -> x.tap(), tape);
        }
        Check.says("27, 28: at most 40 bytes");
        for (int n : new int[] {41, 42, 400}) {
            refusesTape("broken of " + n, ARGUMENT, x -> x.broken(false), new int[n]);
            refusesTape("tap of " + n, ARGUMENT, x -> x.tap(), new int[n]);
        }
        Check.says("25 to 28: the TAPE is used up by what is answered, too");
        LeanCity x = some();
        Check.tape(x, 0, 2);
        Check.is("order", x.order(0), 0);
        Check.is("end", x.end(1), false);
        Check.tape(x, 0, 2);
        Check.is("means", x.means(), 1);
        Check.is("end", x.end(1), false);
        Check.tape(x, 2, 0);
        Check.is("broken", x.broken(false), 1);
        Check.is("end", x.end(1), false);
        Check.tape(x, 0, 255);
        Check.is("tap", x.tap(), LeanCity.NONE);
        Check.is("end", x.end(1), false);
    }

    private static void leans() {
        Check.says("31, 32, 34: IndexOutOfBoundsException: there is no such HOUSE");
        for (int h : new int[] {-1, 3, MIN, MAX}) {
            refuses("ring(" + h + ")", INDEX, x -> x.ring(h));
            refuses("held(" + h + ")", INDEX, x -> x.held(h));
            refuses("apart(" + h + ")", INDEX, x -> x.apart(h));
        }
        Check.says("31, 32, 34: of one FALLEN there is none");
        Check.is("ring(1)", some().ring(1), false);
        Check.is("held(1)", some().held(1), 0);
        Check.is("apart(1)", some().apart(1), 0);
    }

    private static void people() {
        Check.says("36: IndexOutOfBoundsException: there is no such person (NONE: how much)");
        for (int p : new int[] {-2, 2, MIN, MAX}) {
            refuses("gates(" + p + ")", INDEX, x -> x.gates(p));
        }
        Check.is("gates(-1)", some().gates(-1), 0);
        Check.is("gates(1)", some().gates(1), LeanCity.NONE);
        Check.says("37, 38: IndexOutOfBoundsException: there is no such person");
        for (int p : new int[] {-1, 2, MIN, MAX}) {
            refuses("swap(" + p + ", 0)", INDEX, x -> x.swap(p, 0));
            refuses("swap(0, " + p + ")", INDEX, x -> x.swap(0, p));
            refuses("rests(" + p + ", 0)", INDEX, x -> x.rests(p, 0));
            refuses("rests(0, " + p + ")", INDEX, x -> x.rests(0, p));
        }
        Check.says("37, 38: IllegalArgumentException: both are one");
        for (int p : new int[] {0, 1}) {
            refuses("swap(" + p + ", " + p + ")", ARGUMENT, x -> x.swap(p, p));
            refuses("rests(" + p + ", " + p + ")", ARGUMENT, x -> x.rests(p, p));
        }
        Check.says("42: IndexOutOfBoundsException: there is no such EVENING");
        for (int e : new int[] {-1, 7, 31, 32, MIN, MAX}) {
            refuses("there(" + e + ")", INDEX, x -> x.there(e));
        }
        Check.is("there(0)", some().there(0), 2);
        Check.is("there(3)", some().there(3), 0);
        Check.is("there(6)", some().there(6), 2);
    }

    private static void times() {
        Check.says("39: IllegalArgumentException: N is none (0 to 4)");
        for (int n : new int[] {-1, 5, MIN, MAX}) {
            refuses("odds(" + n + ")", ARGUMENT, x -> x.odds(n));
        }
        Check.is("odds(0)", some().odds(0), 10000);
        Check.is("odds(4)", some().odds(4), 2401);
        Check.says("46, 47, 48: IllegalArgumentException: N is none (0 to 70)");
        for (int n : new int[] {-1, 71, MIN, MAX}) {
            refuses("ahead(" + n + ")", ARGUMENT, x -> x.ahead(n));
            refuses("trial(" + n + ", false)", ARGUMENT, x -> x.trial(n, false));
            refuses("trial(" + n + ", true)", ARGUMENT, x -> x.trial(n, true));
            refuses("span(" + n + ", false)", ARGUMENT, x -> x.span(n, false));
            refuses("span(" + n + ", true)", ARGUMENT, x -> x.span(n, true));
        }
        for (int n : new int[] {0, 70}) {
            Check.is("ahead(" + n + ")", some().ahead(n), 5);
            Check.is("trial(" + n + ", false)", some().trial(n, false), 5);
            Check.is("trial(" + n + ", true)", some().trial(n, true), 25);
            Check.is("span(" + n + ", false)", some().span(n, false), 2);
            Check.is("span(" + n + ", true)", some().span(n, true), 2);
        }
    }

    private static void log() {
        Check.says("49: IndexOutOfBoundsException: there is no such HOUSE (FALLEN or not)");
        for (int h : new int[] {-1, 3, MIN, MAX}) {
            refuses("led(" + h + ", false)", INDEX, x -> x.led(h, false));
            refuses("led(" + h + ", true)", INDEX, x -> x.led(h, true));
        }
        Check.is("led(1, false)", some().led(1, false), 1);
        Check.is("led(2, false)", some().led(2, false), 0);
        Check.says("50: NoSuchElementException: another what, also without a row");
        for (int what : new int[] {-1, 6, MIN, MAX}) {
            refuses("log(0, " + what + ")", ELEMENT, x -> x.log(0, what));
            refuses("log(1, " + what + ")", ELEMENT, x -> x.log(1, what));
            refuses("log(-1, " + what + ")", ELEMENT, x -> x.log(-1, what));
        }
        Check.is("log(0, 0)", some().log(0, 0), 8);
        Check.is("log(0, 5)", some().log(0, 5), 1);
        Check.says("50: NONE without");
        for (int ago : new int[] {-1, 1, 59, 60, MIN, MAX}) {
            for (int what = 0; what < 6; what++) {
                Check.is("log(" + ago + ", " + what + ")", some().log(ago, what), LeanCity.NONE);
            }
        }
    }

    private static void firstOfSeveral() {
        Check.says("of several exceptions the one told first is thrown");
        refuses("house(-1, 13)", INDEX, x -> x.house(-1, 13));
        refuses("house(3, -1)", INDEX, x -> x.house(3, -1));
        refuses("person(2, 4)", INDEX, x -> x.person(2, 4));
        refuses("build on none of no weight", INDEX, x -> x.build(0, 1, 3, 1));
        refuses("build on none of no firm", INDEX, x -> x.build(1, -1, 3, 1));
        refuses("build on none by no part", INDEX, x -> x.build(1, 1, -1, 0));
        refuses("build on one FALLEN of no weight", ARGUMENT, x -> x.build(100, 1, 1, 1));
        refuses("build on one FALLEN of no firm", ARGUMENT, x -> x.build(1, 1000, 1, 1));
        refuses("build on one FALLEN by no part", ARGUMENT, x -> x.build(1, 1, 1, 10));
        refuses("lean(3, 3, 1)", INDEX, x -> x.lean(3, 3, 1));
        refuses("lean(3, 0, 10)", INDEX, x -> x.lean(3, 0, 10));
        refuses("lean(0, 3, -1)", INDEX, x -> x.lean(0, 3, -1));
        refuses("lean(1, 3, 1)", INDEX, x -> x.lean(1, 3, 1));
        refuses("lean(1, 1, 1)", ARGUMENT, x -> x.lean(1, 1, 1));
        refuses("lean(1, 0, 10)", ARGUMENT, x -> x.lean(1, 0, 10));
        refuses("lean(0, 1, -1)", ARGUMENT, x -> x.lean(0, 1, -1));
        refuses("wed(3, 3)", INDEX, x -> x.wed(3, 3));
        refuses("wed(1, 3)", INDEX, x -> x.wed(1, 3));
        refuses("wed(3, 1)", INDEX, x -> x.wed(3, 1));
        refuses("wed(1, 1)", ARGUMENT, x -> x.wed(1, 1));
        refuses("move(2, 1)", INDEX, x -> x.move(2, 1));
        refuses("swap(2, 2)", INDEX, x -> x.swap(2, 2));
        refuses("swap(-1, -1)", INDEX, x -> x.swap(-1, -1));
        refuses("rests(2, 2)", INDEX, x -> x.rests(2, 2));
        refuses("rests(-1, -1)", INDEX, x -> x.rests(-1, -1));
    }

    private static void emptyCity() {
        Check.says("of a new city there is no HOUSE, no person");
        LeanCity x = new LeanCity();
        Call[] calls = {y -> y.house(0, 0), y -> y.part(0, 0), y -> y.person(0, 0), y -> y.build(1, 1, 0, 1), y -> y.lean(0, 0, 1),
            y -> y.wed(0, 0), y -> y.trim(0), y -> y.move(0, 0), y -> y.come(0, 0, true), y -> y.raze(0), y -> y.pulls(0),
            y -> y.ring(0), y -> y.held(0), y -> y.apart(0), y -> y.gates(0), y -> y.swap(0, 0), y -> y.rests(0, 0), y -> y.led(0, true)};
        for (int i = 0; i < calls.length; i++) {
            Call call = calls[i];
            Check.fails("call " + i, INDEX, () -> call.on(x));
        }
        Check.is("nothing was done", State.deep(x), State.deep(new LeanCity()));
        Check.says("of a new city no HOUSE can be told on the TAPE");
        Check.fails("order", ARGUMENT, () -> { Check.tape(x, 0); x.order(0); });
        Check.fails("means", ARGUMENT, () -> { Check.tape(x, 0); x.means(); });
        Check.fails("broken", ARGUMENT, () -> { Check.tape(x, 0, 0); x.broken(true); });
        Check.fails("tap", ARGUMENT, () -> { Check.tape(x, 0, 0); x.tap(); });
    }

    private static LeanCity full() {
        LeanCity x = Check.city("house weight 9 firm 9;house weight 9 firm 9;house weight 9 firm 9;house weight 9 firm 9;"
                + "house weight 9 firm 9;house weight 9 firm 9;house weight 9 firm 9");
        x.raze(6);
        return x;
    }

    private static void fullCity() {
        Check.says("11: IllegalStateException: there are 8");
        LeanCity x = full();
        LeanCity y = full();
        Check.is("the 8th", x.build(5, 6, 5, 7), 7);
        Check.is("the 8th", y.build(5, 6, 5, 7), 7);
        Check.fails("the 9th", STATE, () -> x.build(5, 6, 5, 7));
        Check.says("11: there are 8, FALLEN ones, too");
        Check.is("HOUSES that are not FALLEN", x.count(8), 0b10111111);
        Check.fails("the 9th on one FALLEN", STATE, () -> x.build(5, 6, 6, 7));
        Check.says("11: of several the one told first");
        Check.fails("the 9th on none", INDEX, () -> x.build(5, 6, 8, 7));
        Check.fails("the 9th of no weight", ARGUMENT, () -> x.build(0, 6, 5, 7));
        Check.fails("the 9th of no firm", ARGUMENT, () -> x.build(5, 1000, 5, 7));
        Check.fails("the 9th by no part", ARGUMENT, () -> x.build(5, 6, 5, 0));
        Check.says("11: nothing was done by these");
        Check.is("all", State.deep(x), State.deep(y));
        Check.says("25, 26: more than 5 are none, even of 8");
        for (int n : new int[] {5, 6}) {
            LeanCity z = full();
            byte[] tape = new byte[n];
            for (int i = 0; i < n; i++) {
                tape[i] = (byte) i;
            }
            if (n == 5) {
                Check.tape(z, tape);
                Check.is("the first of 5", z.order(0), 0);
                Check.tape(z, tape);
                Check.is("means of 5", z.means(), 10);
            } else {
                Check.tape(z, tape);
                Check.fails("order of 6", ARGUMENT, () -> z.order(0));
                Check.is("used up", z.end(1), false);
                Check.tape(z, tape);
                Check.fails("means of 6", ARGUMENT, z::means);
                Check.is("used up", z.end(1), false);
            }
        }
        Check.says("person: 6 are all");
        LeanCity z = full();
        Check.more(z, "person at 0 hold 1;person at 0 hold 1;person at 0 hold 1;person at 0 hold 1;person at 0 hold 1;person at 5 hold 9");
        Check.is("the 6th", z.person(5, 1), 9);
        Check.fails("a 7th", INDEX, () -> z.person(6, 1));
        Check.fails("a 7th moves", INDEX, () -> z.move(6, 0));
    }

    private static void texts() {
        Check.says("a text that is refused changes nothing but the TAPE and fault(): wrong");
        LeanCity x = some();
        LeanCity y = some();
        Check.cityAt(x, "week 4;house weight 1 firm 1;prop ^0");
        Check.lawStays(y, "                                  ^;");
        Check.is("all", State.deep(x), State.deep(y));
        Check.says("a text that is refused changes nothing but the TAPE and fault(): the 13th");
        x = some();
        y = some();
        for (LeanCity z : new LeanCity[] {x, y}) {
            for (int n = 2; n <= 12; n++) {
                Check.more(z, "week " + n);
            }
            z.image();
            z.trim(2);
        }
        LeanCity last = x;
        Check.tape(last, "week 4;house weight 1 firm 1;prop 1");
        Check.fails("city", UnsupportedOperationException.class, last::city);
        Check.is("all", State.deep(last), State.deep(y));
    }
}
