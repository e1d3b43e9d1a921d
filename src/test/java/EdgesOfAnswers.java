/** The edges of part 3 and of promises 18 to 48: none, of several the least, 0 without, the empty and the full city, FALLEN ones. */
public final class EdgesOfAnswers {
    private static final String ONE = "house weight 9 firm 99";
    private static final String TWO = ONE + ";" + ONE;
    private static final String EIGHT = TWO + ";" + TWO + ";" + TWO + ";" + TWO;

    public static void main(String[] args) {
        emptyCity();
        allFallen();
        falls();
        pulls();
        key();
        needs();
        spare();
        weakest();
        props();
        orders();
        ordersInPlace();
        broken();
        brokenBounds();
        tap();
        eases();
        sagging();
        rings();
        ends();
        apart();
        gates();
        gatesWay();
        swaps();
        rests();
        odds();
        oldest();
        there();
        twins();
        down();
        ahead();
        trial();
        span();
        nothingStays();
        Check.done();
    }

    /** What a city without a HOUSE that stands answers, whether there is one FALLEN or not. */
    private static void answersOfNone(LeanCity x) {
        for (int e = 0; e < 7; e++) {
            Check.is("falls", x.falls(e), 0);
            Check.is("rounds", x.rounds(e), 0);
            Check.is("props", x.props(e), 0);
            Check.is("there", x.there(e), 0);
        }
        Check.is("key", x.key(), LeanCity.NONE);
        Check.is("weakest", x.weakest(), 0);
        for (int k = -1; k <= 5; k++) {
            Check.is("order", Check.order(x, k), LeanCity.NONE);
        }
        Check.is("means", Check.means(x), 0);
        Check.is("broken", Check.broken(x, false), 1);
        Check.is("which", Check.broken(x, true), 64);
        Check.is("tap", Check.tap(x), LeanCity.NONE);
        Check.is("eases", x.eases(), LeanCity.NONE);
        Check.is("sagging", x.sagging(), 0);
        Check.is("ends", x.ends(), 0);
        Check.is("pieces", x.pieces(), 0);
        Check.is("gates", x.gates(LeanCity.NONE), 0);
        Check.is("odds", x.odds(4), 10000);
        Check.is("oldest", x.oldest(), LeanCity.NONE);
        Check.is("straight", x.straight(), 0);
        Check.is("twins", x.twins(), 0);
        Check.is("leans", x.leans(), 0);
        Check.is("down", x.down(), LeanCity.NONE);
        for (int n : new int[] {0, 1, 70}) {
            Check.is("ahead", x.ahead(n), 0);
            Check.is("trial", x.trial(n, false), 0);
            Check.is("trial hold", x.trial(n, true), 0);
            Check.is("span", x.span(n, false), 0);
            Check.is("span most", x.span(n, true), 0);
        }
    }

    private static void emptyCity() {
        Check.says("what is told where there is no HOUSE");
        LeanCity x = new LeanCity();
        answersOfNone(x);
        Check.is("spare", x.spare(), 0);
        Check.says("and with a law, wandering, a prop and an EVENING told");
        Check.more(x, "wander 100;prop 1;evening 6;week 999");
        Check.law(x, "firm 1;soft 99;grow 9");
        answersOfNone(x);
    }

    private static void allFallen() {
        Check.says("those FALLEN count for nothing");
        LeanCity x = Check.city("house weight 9 firm 9 age 7;house weight 9 firm 9 age 8;lean 0 1 part 1;person at 0 hold 9;person at 1 hold 5;wander 50");
        x.raze(0);
        x.raze(1);
        answersOfNone(x);
        for (int h = 0; h < 2; h++) {
            Check.is("ring", x.ring(h), false);
            Check.is("held", x.held(h), 0);
            Check.is("apart", x.apart(h), 0);
        }
        Check.says("and people AT none hold nothing");
        Check.is("spare", x.spare(), 3);
        Check.is("needs", x.person(0, 3), 0);
        Check.is("gates of 0", x.gates(0), LeanCity.NONE);
        Check.is("gates of 1", x.gates(1), LeanCity.NONE);
        Check.is("swap", x.swap(0, 1), false);
        Check.is("rests", x.rests(0, 1), 9);
    }

    private static void falls() {
        Check.says("18: HOUSES that would be FALLEN by a FALL in it, as bits");
        LeanCity x = Check.city("house weight 9 firm 0;" + EIGHT.substring(0, EIGHT.length() - 2 * ONE.length() - 2) + ";house weight 9 firm 0;"
                + "person at 0 hold 9 on 0111110;person at 7 hold 9 on 1111110");
        Check.is("EVENING 0", x.falls(0), 1);
        Check.is("EVENING 1", x.falls(1), 0);
        Check.is("EVENING 6", x.falls(6), 129);
        Check.says("18: those FALLEN are not told again");
        x.raze(0);
        Check.is("EVENING 6", x.falls(6), 128);
        Check.is("EVENING 0", x.falls(0), 0);
        Check.says("18: by all as it is now, whatever EVENING it is");
        x.evenings(3);
        Check.is("EVENING 6", x.falls(6), 128);
        Check.says("19: ROUNDS of it");
        Check.is("EVENING 6", x.rounds(6), 1);
        Check.is("EVENING 0", x.rounds(0), 0);
    }

    private static LeanCity chain() {
        LeanCity x = Check.city("house weight 20 firm 60;house weight 20 firm 19;house weight 20 firm 19;house weight 20 firm 19;"
                + "house weight 20 firm 19;house weight 20 firm 19;house weight 20 firm 19;house weight 20 firm 19");
        for (int h = 1; h < 8; h++) {
            x.lean(h, h - 1, 1);
        }
        return x;
    }

    private static void pulls() {
        Check.says("20: how many would be FALLEN, itself too");
        LeanCity x = chain();
        for (int h = 0; h < 8; h++) {
            Check.is("pulls(" + h + ")", x.pulls(h), 8 - h);
        }
        Check.is("one alone", Check.city(ONE).pulls(0), 1);
        Check.says("20: a FALL in EVENING");
        LeanCity y = Check.city(ONE + ";house weight 9 firm 0;person at 1 hold 9 on 1011111");
        Check.is("EVENING 0", y.pulls(0), 1);
        y.evenings(1);
        Check.is("EVENING 1", y.pulls(0), 2);
        Check.is("that falls anyway", y.pulls(1), 1);
    }

    private static void key() {
        Check.says("21: the HOUSE that PULLS the most");
        Check.is("the first of a chain", chain().key(), 0);
        LeanCity last = Check.city("house weight 20 firm 19;" + ONE + ";lean 0 1 part 1");
        Check.is("the last", last.key(), 1);
        Check.says("21: of several the least");
        Check.is("of eight alike", Check.city(EIGHT).key(), 0);
        LeanCity x = Check.city(ONE + ";house weight 20 firm 19;house weight 20 firm 19;house weight 40 firm 99;house weight 40 firm 99;"
                + "lean 1 3 part 1;lean 2 4 part 1");
        Check.is("3 and 4", x.key(), 3);
        Check.says("21: not one FALLEN");
        x.raze(3);
        x.undo();
        x.raze(0);
        Check.is("3 and 4", x.key(), 3);
        LeanCity y = Check.city(TWO);
        y.raze(0);
        Check.is("1", y.key(), 1);
        Check.says("21: none");
        y.raze(1);
        Check.is("key", y.key(), LeanCity.NONE);
    }

    private static void needs() {
        Check.says("9: NEEDS: HOUSES more that would be FALLEN, as bits");
        LeanCity x = Check.city("house weight 9 firm 0;house weight 20 firm 19;house weight 9 firm 0;lean 1 0 part 1;person at 0 hold 19;"
                + "person at 1 hold 99 on 0000000;person at 2 hold 8");
        Check.is("0 and what leans on it", x.person(0, 3), 3);
        Check.is("not there", x.person(1, 3), 0);
        Check.is("it falls anyway", x.person(2, 3), 0);
        Check.says("9: NEEDS: in EVENING");
        x.come(0, 0, false);
        Check.is("not there", x.person(0, 3), 0);
        Check.says("9: NEEDS: 0 of one AT none");
        x.undo();
        x.raze(0);
        Check.is("AT none", x.person(0, 3), 0);
        Check.says("9: NEEDS: of two who hold enough each alone none is needed");
        LeanCity y = Check.city("house weight 9 firm 0;person at 0 hold 9;person at 0 hold 9");
        Check.is("0", y.person(0, 3), 0);
        Check.is("1", y.person(1, 3), 0);
        Check.more(y, "house weight 9 firm 0;person at 1 hold 9");
        Check.is("2", y.person(2, 3), 2);
        Check.says("9: NEEDS: HOUSES more, not those that stand by it");
        Check.is("FALLEN as it is", parting().falls(0), 6);
        Check.is("0 for 2", parting().person(0, 3), 1);
        LeanCity z = Check.city("house weight 9 firm 9;person at 0 hold 0");
        Check.law(z, "soft 1 if held");
        Check.is("it stands without", z.person(0, 3), 0);
    }

    /** HOUSE 0 stands by a person, and gives more to 2, once 1 is FALLEN; without the person it is FALLEN with 1, and 2 is not. */
    private static LeanCity parting() {
        return Check.city("house weight 40 firm 0;house weight 1 firm 5;house weight 1 firm 10;house weight 20 firm 99;house weight 1 firm 99;"
                + "lean 3 0 part 1;lean 0 1 part 1;lean 0 2 part 1;lean 0 4 part 1;person at 0 hold 10");
    }

    private static void spare() {
        Check.says("22: each alone");
        LeanCity x = Check.city("house weight 9 firm 0;person at 0 hold 9;person at 0 hold 9");
        Check.is("both", x.spare(), 3);
        Check.says("22: no HOUSE more in some EVENING: one EVENING is enough");
        x.come(1, 6, false);
        Check.is("0 is needed in EVENING 6", x.spare(), 2);
        x.come(0, 0, false);
        Check.is("1 is needed in EVENING 0", x.spare(), 0);
        Check.says("22: all six, and none");
        LeanCity six = Check.city(ONE + ";person at 0 hold 1;person at 0 hold 1;person at 0 hold 1;person at 0 hold 1;person at 0 hold 1;person at 0 hold 1");
        Check.is("all", six.spare(), 63);
        Check.is("no people", Check.city(ONE).spare(), 0);
        Check.says("22: those AT none, and who are there in no EVENING");
        LeanCity y = Check.city("house weight 9 firm 0;" + ONE + ";person at 0 hold 99 on 0000000;person at 1 hold 1");
        y.raze(1);
        Check.is("both", y.spare(), 3);
        Check.says("22: a HOUSE more is one, also if another one stands by it");
        Check.is("0 for 2", parting().spare(), 0);
        Check.says("22: no HOUSE more, but one less");
        LeanCity z = Check.city("house weight 9 firm 9;person at 0 hold 0");
        Check.law(z, "soft 1 if held");
        Check.is("it stands without", z.spare(), 1);
    }

    private static void weakest() {
        Check.says("23: the EVENING in which the most HOUSES would be FALLEN");
        LeanCity x = Check.city("house weight 9 firm 0;house weight 9 firm 0;person at 0 hold 9 on 1111110;person at 1 hold 9 on 0000000");
        Check.is("the last", x.weakest(), 6);
        x.come(0, 0, false);
        x.come(0, 6, true);
        Check.is("the first", x.weakest(), 0);
        Check.says("23: one is more than none");
        Check.is("in EVENING 4", Check.city("house weight 9 firm 0;" + ONE + ";person at 0 hold 9 on 1111011").weakest(), 4);
        Check.says("23: of several the least");
        x.come(0, 0, true);
        Check.is("all alike", x.weakest(), 0);
        x.come(0, 3, false);
        x.come(0, 5, false);
        Check.is("3 and 5", x.weakest(), 3);
        Check.says("23: also if none would");
        Check.is("none", Check.city(ONE + ";evening 4").weakest(), 0);
    }

    private static void props() {
        Check.says("24: the fewest by which no HOUSE is FALLEN: just as much is enough");
        LeanCity x = Check.city("house weight 29 firm 9;house weight 9 firm 9;house weight 10 firm 9");
        Check.is("20 of 20", x.props(0), 5);
        Check.says("24: none, if PROP is too little");
        Check.more(x, "prop 19");
        Check.is("20 of 19", x.props(0), LeanCity.NONE);
        Check.more(x, "prop 99");
        Check.is("99", x.props(0), 5);
        Check.says("24: PROP 1");
        Check.is("1 of 1", Check.city("house weight 10 firm 9;prop 1").props(0), 1);
        Check.is("2 of 1", Check.city("house weight 11 firm 9;prop 1").props(0), LeanCity.NONE);
        Check.says("24: none are needed: of no HOUSES");
        Check.is("0", Check.city(TWO).props(0), 0);
        Check.says("24: all eight");
        Check.is("255", Check.city(EIGHT.replace("99", "0")).props(3), 255);
        Check.says("24: those that stand, once another one is propped, need none");
        LeanCity y = Check.city("house weight 20 firm 19;house weight 20 firm 19;lean 1 0 part 1");
        Check.is("0 alone", y.props(0), 1);
        Check.says("24: not of one FALLEN");
        y.raze(0);
        Check.is("1 alone", y.props(0), 2);
        Check.says("24: of an EVENING");
        LeanCity z = Check.city("house weight 40 firm 10;person at 0 hold 10 on 0100001;evening 3");
        Check.is("EVENING 1", z.props(1), 1);
        Check.is("EVENING 6", z.props(6), 1);
        Check.is("EVENING 0", z.props(0), LeanCity.NONE);
    }

    private static void orders() {
        Check.says("25: none may be told");
        LeanCity x = Check.city(EIGHT);
        Check.is("order(0)", Check.order(x, 0), LeanCity.NONE);
        Check.says("26: none may be told");
        Check.is("means", Check.means(x), 0);
        Check.says("25: 5 may be told: the k-th");
        for (int k = 0; k < 5; k++) {
            Check.is("order(" + k + ")", Check.order(x, k, 7, 5, 3, 2, 0), new int[] {0, 2, 3, 5, 7}[k]);
        }
        Check.is("means", Check.means(x, 7, 5, 3, 2, 0), 10);
        Check.says("25: NONE: there is no k-th");
        for (int k : new int[] {-1, 5, 6, Integer.MIN_VALUE, Integer.MAX_VALUE}) {
            Check.is("order(" + k + ")", Check.order(x, k, 7, 5, 3, 2, 0), LeanCity.NONE);
        }
        Check.is("of one", Check.order(x, 0, 6), 6);
        Check.is("of one", Check.order(x, 1, 6), LeanCity.NONE);
        Check.says("26: of one the place is 0");
        Check.is("means", Check.means(x, 6), 0);
        Check.is("with what it pulls down", Check.means(chain(), 0), 0);
        Check.says("25: of several the first: by the first unlike one, the lesser");
        Check.is("of two alike", Check.order(x, 0, 4, 1), 1);
        Check.is("of two alike", Check.order(x, 1, 4, 1), 4);
        Check.says("25: a HOUSE told is not a place told");
        Check.is("told the other way", Check.order(x, 0, 1, 4), 1);
    }

    private static void ordersInPlace() {
        Check.says("25: the most of all HOUSES as late as can be");
        // 1 pulls 2 and 3 down, 0 nothing.
        LeanCity x = Check.city(ONE + ";house weight 50 firm 99;house weight 20 firm 19;house weight 20 firm 19;lean 2 1 part 1;lean 3 1 part 1");
        Check.is("0 first", Check.order(x, 0, 1, 0), 0);
        Check.is("then 1", Check.order(x, 1, 1, 0), 1);
        Check.is("three at 1", Check.means(x, 1, 0), 3);
        Check.says("25: one that is FALLEN by then is passed over, its place counts on");
        // 0, 2, 1: 2 at 1, 1 and 3 at 2: 5. 2, 0, 1: 0 at 1, 1 and 3 at 2: 5, too. 0, 1, 2: 2 is passed over: 3.
        Check.is("means", Check.means(x, 0, 1, 2), 5);
        Check.is("first", Check.order(x, 0, 0, 1, 2), 0);
        Check.is("second", Check.order(x, 1, 0, 1, 2), 2);
        Check.is("third", Check.order(x, 2, 0, 1, 2), 1);
        LeanCity y = Check.city("house weight 9 firm 8;house weight 9 firm 8;" + TWO);
        // The first one takes 0 and 1 with it.
        Check.is("means", Check.means(y, 0, 1, 2), 2);
        Check.is("first", Check.order(y, 0, 0, 1, 2), 0);
        Check.is("passed over", Check.order(y, 1, 0, 1, 2), 1);
        Check.is("in its place", Check.order(y, 2, 0, 1, 2), 2);
        Check.says("25: a FALL in EVENING");
        LeanCity e = Check.city(TWO + ";house weight 9 firm 0;person at 2 hold 9 on 1011111");
        // In EVENING 0 2 stands; in EVENING 1 it falls behind the first one.
        Check.is("EVENING 0", Check.means(e, 0, 1, 2), 3);
        e.evenings(1);
        Check.is("EVENING 1", Check.means(e, 0, 1, 2), 2 + 1);
        Check.is("2 first", Check.order(e, 0, 0, 1, 2), 2);
        Check.is("without 2", Check.means(e, 0, 1), 1);
        Check.says("25: those FALLEN ahead of all are not counted");
        e.raze(2);
        Check.is("means", Check.means(e, 0, 1), 1);
    }

    // PRESS: 0, 20, 20, 20.
    private static final String ROW = "house weight 40 firm 50;house weight 20 firm 50;house weight 20 firm 50;house weight 20 firm 50;"
            + "lean 0 1 part 2;lean 1 2 part 3;lean 2 3 part 4";

    private static void broken() {
        LeanCity x = Check.city(ROW);
        Check.says("27: each row off by 1 at most");
        Check.is("18", Check.broken(x, false, 1, 18), 0);
        Check.is("19", Check.broken(x, false, 1, 19), 3);
        Check.is("20", Check.broken(x, false, 1, 20), 3);
        Check.is("21", Check.broken(x, false, 1, 21), 3);
        Check.is("22", Check.broken(x, false, 1, 22), 0);
        Check.is("1 of 0", Check.broken(x, false, 1, 1), 1);
        Check.is("2 of 0", Check.broken(x, false, 1, 2), 0);
        Check.says("27: each row, also the last one");
        Check.is("the second one", Check.broken(x, false, 1, 20, 3, 18), 0);
        Check.is("both", Check.broken(x, true, 1, 20, 3, 10), 10);
        Check.says("27: none counted, too");
        Check.is("none alone", Check.broken(x, false, 1, 20, 2, 20, 3, 20), 1);
        Check.is("all", Check.broken(x, false), 4);
        Check.is("without LEANS", Check.broken(Check.city(TWO), false), 1);
        Check.says("27: WHICH: the least one");
        Check.is("of all", Check.broken(x, true), 1);
        Check.is("of three", Check.broken(x, true, 1, 20), 10);
        Check.says("27: WHICH: 64: none");
        Check.is("64", Check.broken(x, true, 1, 20, 2, 20, 3, 20), 64);
        Check.says("27: WHICH; NONE");
        Check.is("none fits", Check.broken(x, true, 1, 22), LeanCity.NONE);
        Check.is("none fits", Check.broken(x, true, 0, 2), LeanCity.NONE);
        Check.says("27: WHICH: 8 times who LEANS and on whom");
        LeanCity y = Check.city(EIGHT + ";lean 7 6 part 1;lean 6 7 part 1");
        Check.is("7 on 6", Check.broken(y, true, 6, 0), 62);
        Check.is("6 on 7", Check.broken(y, true, 7, 0), 55);
        LeanCity z = Check.city(EIGHT + ";lean 7 0 part 1");
        Check.is("7 on 0", Check.broken(z, true, 0, 0), 56);
        Check.says("27: a row of HOUSE 0");
        Check.is("4 of 4 or 0", Check.broken(z, false, 0, 4), 1);
        Check.is("which", Check.broken(z, true, 0, 4), 64);
        Check.is("2 of 4 or 0", Check.broken(z, false, 0, 2), 0);
        Check.says("27: one LEAN is not there: others get its share");
        LeanCity share = Check.city("house weight 40 firm 50;" + TWO + ";lean 0 1 part 1;lean 0 2 part 3");
        Check.is("5 and 15", Check.broken(share, true, 1, 5, 2, 15), 64);
        Check.is("0 on 1 is not there", Check.broken(share, true, 2, 20), 1);
        Check.is("0 on 2 is not there", Check.broken(share, true, 1, 20), 2);
        Check.says("27: rows of which one gainsays another");
        Check.is("20 and 0", Check.broken(x, false, 1, 20, 1, 0), 0);
        Check.says("27: none may be told");
        Check.is("no row", Check.broken(x, false), 4);
        Check.says("27: at most 40 bytes: 20 rows");
        int[] twenty = new int[40];
        Check.is("20 of 0", Check.broken(x, false, twenty), 4);
        twenty[38] = 3;
        twenty[39] = 10;
        Check.is("the 20th counts", Check.broken(x, true, twenty), 10);
        Check.says("27: of one FALLEN PRESS is 0");
        LeanCity f = Check.city(ROW);
        f.raze(3);
        Check.is("0", Check.broken(f, false, 3, 0), 3);
        Check.is("1", Check.broken(f, false, 3, 1), 3);
        Check.is("2", Check.broken(f, false, 3, 2), 0);
        Check.is("255", Check.broken(f, true, 3, 255), LeanCity.NONE);
        Check.is("tap", Check.tap(f, 3, 2), LeanCity.NONE);
        Check.says("27: a LEAN on or of one FALLEN is none");
        Check.is("which", Check.broken(f, true, 2, 0), 10);
    }

    private static void brokenBounds() {
        Check.says("27: PRESS that is felt: 0 to 255, where there may be more of it");
        LeanCity x = Check.city("house weight 99 firm 9;house weight 99 firm 9;house weight 99 firm 9;house weight 99 firm 9;house weight 99 firm 9;"
                + "house weight 22 firm 9;" + ONE);
        for (int h = 0; h < 6; h++) {
            x.lean(h, 6, 1);
        }
        Check.is("press", x.house(6, 5), 256);
        Check.is("255 of 256", Check.broken(x, true, 6, 255), 64);
        Check.is("254 of 256", Check.broken(x, false, 6, 254), 0);
        Check.is("246 of 245", Check.broken(x, true, 6, 246), 46);
        Check.is("207", Check.broken(x, false, 6, 207), 5);
        Check.more(x, "house weight 2 firm 9;lean 7 6 part 1");
        Check.is("press", x.house(6, 5), 257);
        Check.is("255 of 257 and of 256", Check.broken(x, true, 6, 255), 62);
        Check.is("alone", Check.broken(x, false, 6, 255), 1);
        Check.is("0 is not 256", Check.broken(x, false, 6, 0), 0);
    }

    private static void tap() {
        Check.says("28: NONE with fewer than two");
        LeanCity x = Check.city(ROW);
        Check.is("none fits", Check.tap(x, 1, 22), LeanCity.NONE);
        Check.is("one fits", Check.tap(x, 1, 20, 2, 20, 3, 20), LeanCity.NONE);
        Check.is("without LEANS", Check.tap(Check.city(TWO)), LeanCity.NONE);
        Check.says("28: two are enough");
        Check.is("two fit", Check.tap(x, 1, 20, 2, 20), 3);
        Check.says("28: the greatest part is the least");
        Check.is("all", Check.tap(x), 3);
        Check.says("28: of several the least");
        LeanCity y = Check.city(TWO + ";" + TWO + ";lean 0 1 part 1;lean 0 2 part 1");
        Check.is("1 and 2", Check.tap(y), 1);
        Check.says("28: HOUSE 0 may be the one");
        // 1 on 0, 2 on 3: 0 parts them into two and one, 3 likewise.
        Check.is("0 and 3", Check.tap(Check.city(TWO + ";" + TWO + ";lean 1 0 part 1;lean 2 3 part 1")), 0);
        Check.says("28: and may part nothing");
        // 0 on 3, 1 on 0: by the row 0 on 3 is not there, or none; 0 has 4 either way.
        Check.is("3", Check.tap(Check.city(TWO + ";" + TWO + ";lean 0 3 part 1;lean 1 0 part 1"), 0, 4), 3);
        Check.says("28: if it was exact: off by 1 is parted");
        // PRESS of 3 is 1 with, 0 without.
        LeanCity one = Check.city("house weight 2 firm 9;" + TWO + ";" + ONE + ";lean 0 3 part 1");
        Check.is("1 and 0", Check.tap(one), 3);
        Check.is("also with a row that fits both", Check.tap(one, 3, 1), 3);
        Check.says("28: not one FALLEN, also if nothing is parted");
        LeanCity light = Check.city(ONE + ";house weight 1 firm 1;" + ONE + ";lean 1 2 part 1");
        Check.is("0", Check.tap(light), 0);
        light.raze(0);
        Check.is("1", Check.tap(light), 1);
    }

    private static void eases() {
        Check.says("29: 8 times the lesser and the other one");
        LeanCity x = Check.city(EIGHT);
        Check.is("none LEAN: all bear 9, a wedding of two leaves others", x.eases(), LeanCity.NONE);
        LeanCity y = Check.city(TWO.replace("99", "999") + ";" + TWO.replace("99", "999") + ";" + TWO.replace("99", "999")
                + ";house weight 99 firm 0;" + ONE.replace("99", "999"));
        Check.is("6 and 0", y.eases(), 6);
        for (int h = 0; h < 6; h++) {
            y.raze(h);
        }
        Check.is("6 and 7", y.eases(), 55);
        Check.says("29: of several the least");
        LeanCity alike = Check.city(TWO + ";house weight 50 firm 0");
        Check.is("0 and 2, 1 and 2", alike.eases(), 2);
        alike.raze(0);
        Check.is("1 and 2", alike.eases(), 10);
        Check.says("29: and less than now");
        LeanCity two = Check.city("house weight 50 firm 0;house weight 50 firm 0");
        Check.is("both are eased", two.eases(), 1);
        Check.more(two, "house weight 50 firm 0");
        Check.is("the third one sags as much", two.eases(), LeanCity.NONE);
        Check.says("29: 9 at most: a wedding that changes nothing eases nothing");
        Check.is("9 and 9", Check.city("house weight 50 firm 0;" + ONE + ";lean 0 1 part 9;lean 1 0 part 9").eases(), LeanCity.NONE);
        Check.says("29: SAGS below 0, too");
        Check.is("below", Check.city("house weight 50 firm 90;house weight 1 firm 99").eases(), 1);
        Check.says("29: in EVENING");
        LeanCity e = Check.city("house weight 50 firm 10;house weight 40 firm 10;house weight 9 firm 999;person at 0 hold 60 on 1011111");
        // In EVENING 0 1 sags the most: 40 on 10; in EVENING 1 it is 0: 50 on 10.
        Check.is("EVENING 0", e.eases(), 10);
        e.evenings(1);
        Check.is("EVENING 1", e.eases(), 2);
        // Behind it 0 sags 11, 1 still 30; behind that of 0 and 1 both more than 30; by 1 and 2 0 would be eased in EVENING 0 alone.
        Check.is("EVENING 1, none FALLEN yet", Check.city("house weight 50 firm 10;house weight 40 firm 10;house weight 9 firm 999;"
                + "person at 0 hold 60 on 1011111;evening 1").eases(), 2);
        Check.says("29: none with fewer than two HOUSES");
        Check.is("one", Check.city("house weight 50 firm 0").eases(), LeanCity.NONE);
        Check.is("none", new LeanCity().eases(), LeanCity.NONE);
    }

    private static void sagging() {
        Check.says("30: the greatest SAGS in EVENING");
        LeanCity x = Check.city("house weight 50 firm 60;house weight 2 firm 90;person at 0 hold 5 on 1000000");
        Check.is("EVENING 0", x.sagging(), -15);
        x.evenings(1);
        Check.is("EVENING 1", x.sagging(), -10);
        Check.says("30: of those not FALLEN, below 0, too");
        x.raze(0);
        Check.is("the other one", x.sagging(), -88);
        Check.says("30: 0 without HOUSES");
        x.raze(1);
        Check.is("none", x.sagging(), 0);
        Check.is("none", new LeanCity().sagging(), 0);
        Check.is("far", Check.city("house weight 99 firm 0").sagging(), 99);
    }

    private static void rings() {
        Check.says("31: whether by LEANS, on and on, one comes back to it");
        LeanCity x = Check.city(EIGHT);
        for (int h = 0; h < 7; h++) {
            x.lean(h, h + 1, 1);
        }
        for (int h = 0; h < 8; h++) {
            Check.is("ring(" + h + ")", x.ring(h), false);
        }
        Check.says("32: all on which it LEANS, on and on (itself, if in a RING)");
        for (int h = 0; h < 8; h++) {
            Check.is("held(" + h + ")", x.held(h), 255 & ~((2 << h) - 1));
        }
        x.lean(7, 0, 9);
        for (int h = 0; h < 8; h++) {
            Check.is("ring(" + h + ") of all", x.ring(h), true);
            Check.is("held(" + h + ") of all", x.held(h), 255);
        }
        Check.says("31: one that LEANS on a RING is not in it");
        LeanCity y = Check.city(TWO + ";" + TWO + ";lean 0 1 part 1;lean 1 2 part 1;lean 2 1 part 1");
        boolean[] ring = {false, true, true, false};
        int[] held = {6, 6, 6, 0};
        for (int h = 0; h < 4; h++) {
            Check.is("ring(" + h + ")", y.ring(h), ring[h]);
            Check.is("held(" + h + ")", y.held(h), held[h]);
        }
        Check.says("31: a RING through one FALLEN is none");
        y.raze(2);
        Check.is("ring(1)", y.ring(1), false);
        Check.is("held(0)", y.held(0), 2);
    }

    private static void ends() {
        Check.says("33: HOUSES that LEAN on none");
        LeanCity x = Check.city(EIGHT + ";lean 7 0 part 1");
        Check.is("ends", x.ends(), 127);
        Check.says("41: HOUSES that LEAN on none and on which none LEANS");
        Check.is("straight", x.straight(), 126);
        Check.says("33, 41: not those FALLEN");
        x.raze(7);
        Check.is("ends", x.ends(), 127);
        Check.is("straight", x.straight(), 127);
        Check.says("44: LEANS: how many there are, either way each");
        LeanCity all = Check.city(EIGHT);
        int many = 0;
        for (int h = 0; h < 8; h++) {
            for (int on = 0; on < 8; on++) {
                if (on != h) {
                    all.lean(h, on, 1 + (h + on) % 9);
                    many++;
                    Check.is("leans", all.leans(), many);
                }
            }
        }
        Check.is("56 at most", many, 56);
        Check.is("no ends", all.ends(), 0);
        Check.is("none straight", all.straight(), 0);
        Check.says("44: PART 0 is none");
        all.lean(0, 1, 0);
        Check.is("leans", all.leans(), 55);
        Check.says("44: none of those FALLEN");
        all.raze(5);
        Check.is("leans", all.leans(), 41);
    }

    private static void apart() {
        Check.says("34: how many pairs of others are of one piece and would not be without it");
        LeanCity x = Check.city(EIGHT);
        for (int h = 1; h < 8; h++) {
            x.lean(h % 2 == 0 ? h : 0, h % 2 == 0 ? 0 : h, 1);
        }
        Check.is("one that holds seven", x.apart(0), 21);
        Check.is("one of the seven", x.apart(3), 0);
        Check.says("34: of another piece are others not");
        LeanCity y = Check.city(EIGHT + ";lean 0 1 part 1;lean 2 1 part 1;lean 4 5 part 1;lean 5 6 part 1");
        Check.is("apart(1)", y.apart(1), 1);
        Check.is("apart(5)", y.apart(5), 1);
        Check.is("apart(4)", y.apart(4), 0);
        Check.is("apart(7)", y.apart(7), 0);
        Check.says("34: of pieces that are left each has its own pairs");
        LeanCity w = Check.city(TWO + ";" + TWO + ";" + ONE + ";lean 0 1 part 1;lean 1 2 part 1;lean 3 2 part 1;lean 4 3 part 1");
        Check.is("two and two", w.apart(2), 4);
        Check.is("one and three", w.apart(1), 3);
        Check.is("three and one", w.apart(3), 3);
        Check.says("34: another way round it");
        y.lean(2, 0, 1);
        Check.is("apart(1)", y.apart(1), 0);
        Check.says("34: 0 of one alone, of one of two, of one FALLEN");
        LeanCity z = Check.city(TWO + ";" + ONE + ";lean 0 1 part 1");
        Check.is("alone", z.apart(2), 0);
        Check.is("of two", z.apart(0), 0);
        z.raze(0);
        Check.is("FALLEN", z.apart(0), 0);
        Check.says("35: how many such pieces there are");
        Check.is("eight", Check.city(EIGHT).pieces(), 8);
        Check.is("one", x.pieces(), 1);
        Check.is("four", y.pieces(), 4);
        Check.says("35: not of those FALLEN");
        x.raze(0);
        Check.is("seven", x.pieces(), 7);
        LeanCity mid = Check.city(EIGHT + ";lean 0 2 part 1;lean 6 3 part 1;lean 3 1 part 1");
        Check.is("0 and 2; 1, 3 and 6; 4; 5; 7", mid.pieces(), 5);
        mid.raze(5);
        Check.is("0 and 2; 1, 3 and 6; 4; 7", mid.pieces(), 4);
        mid.raze(3);
        Check.is("0 and 2; 1; 4; 6; 7", mid.pieces(), 5);
    }

    private static void gates() {
        Check.says("36: the lesser one of HOLD and SAGS");
        Check.is("HOLD", Check.city("house weight 50 firm 0;" + ONE + ";person at 1 hold 49").gates(-1), 49);
        Check.is("both", Check.city("house weight 50 firm 0;" + ONE + ";person at 1 hold 50").gates(-1), 50);
        Check.is("SAGS", Check.city("house weight 50 firm 0;" + ONE + ";person at 1 hold 51").gates(-1), 50);
        Check.says("36: 0 at least: one that does not SAG holds nobody");
        LeanCity x = Check.city("house weight 50 firm 50;house weight 9 firm 99;person at 0 hold 9");
        Check.is("how much", x.gates(-1), 0);
        Check.is("where", x.gates(0), LeanCity.NONE);
        Check.says("36: HOLD 0 is put to none");
        LeanCity y = Check.city("house weight 50 firm 0;person at 0 hold 0;person at 0 hold 1");
        Check.is("how much", y.gates(-1), 1);
        Check.is("0", y.gates(0), LeanCity.NONE);
        Check.is("1", y.gates(1), 0);
        Check.says("36: who is there in that EVENING");
        LeanCity z = Check.city("house weight 50 firm 0;person at 0 hold 40 on 1000001;person at 0 hold 30 on 0111111");
        Check.is("EVENING 0", z.gates(-1), 40);
        Check.is("EVENING 0: where", z.gates(1), LeanCity.NONE);
        Check.more(z, "evening 3");
        Check.is("EVENING 3", z.gates(-1), 30);
        Check.is("EVENING 3: where", z.gates(0), LeanCity.NONE);
        Check.is("EVENING 3: where", z.gates(1), 0);
        Check.more(z, "evening 6");
        Check.is("EVENING 6", z.gates(-1), 40);
        Check.says("36: each AT one, at most one AT each");
        LeanCity six = Check.city("house weight 50 firm 0;house weight 40 firm 0;person at 0 hold 9;person at 0 hold 9;person at 0 hold 9");
        Check.is("two of three", six.gates(-1), 18);
        LeanCity one = Check.city("house weight 50 firm 0;house weight 40 firm 0;person at 0 hold 99");
        Check.is("one of two", one.gates(-1), 50);
        Check.says("36: HOUSES that would SAG without any people");
        LeanCity w = Check.city("house weight 50 firm 20;person at 0 hold 99;person at 0 hold 99");
        Check.is("30", w.gates(-1), 30);
        Check.law(w, "firm 20 if held;soft 5 if not held");
        Check.is("35", w.gates(-1), 35);
        Check.says("36: of HOUSES that are not FALLEN, and also by one AT none");
        LeanCity f = Check.city("house weight 50 firm 0;house weight 40 firm 0;person at 0 hold 99");
        f.raze(0);
        Check.is("40", f.gates(-1), 40);
        Check.is("at 1", f.gates(0), 1);
        Check.says("36: without people 0");
        Check.is("0", Check.city("house weight 50 firm 0").gates(-1), 0);
    }

    private static void gatesWay() {
        Check.says("36: the first such way: person by person, none being the least");
        LeanCity x = Check.city("house weight 50 firm 0;person at 0 hold 50;person at 0 hold 50;person at 0 hold 99");
        int[] last = {-1, -1, 0};
        for (int p = 0; p < 3; p++) {
            Check.is("gates(" + p + ")", x.gates(p), last[p]);
        }
        Check.says("36: then the HOUSES");
        LeanCity y = Check.city("house weight 9 firm 9;house weight 50 firm 0;house weight 50 firm 0;person at 0 hold 5;person at 0 hold 5");
        Check.is("the lesser one", y.gates(0), 1);
        Check.is("the other one", y.gates(1), 2);
        Check.says("36: as much as can be goes ahead of that");
        LeanCity z = Check.city("house weight 50 firm 0;house weight 10 firm 0;person at 0 hold 10;person at 0 hold 50");
        Check.is("0 at 1", z.gates(0), 1);
        Check.is("1 at 0", z.gates(1), 0);
        Check.is("how much", z.gates(-1), 60);
        Check.says("36: six people, eight HOUSES");
        LeanCity all = Check.city(EIGHT.replace("99", "0") + ";person at 0 hold 9;person at 0 hold 9;person at 0 hold 9;person at 0 hold 9;"
                + "person at 0 hold 9;person at 0 hold 9");
        Check.is("how much", all.gates(-1), 54);
        for (int p = 0; p < 6; p++) {
            Check.is("gates(" + p + ")", all.gates(p), p);
        }
        Check.more(all, "evening 0");
        all.raze(0);
        Check.is("the last one", all.gates(5), 6);
    }

    private static void swaps() {
        Check.says("37: whether fewer");
        LeanCity x = Check.city("house weight 30 firm 10;house weight 9 firm 1;person at 0 hold 8;person at 1 hold 20");
        Check.is("none instead of one", x.swap(0, 1), true);
        Check.is("either way", x.swap(1, 0), true);
        Check.says("37: as many are not fewer");
        LeanCity y = Check.city("house weight 9 firm 0;house weight 9 firm 0;person at 0 hold 9;person at 1 hold 1");
        Check.is("others", y.swap(0, 1), false);
        Check.says("37: more are not fewer");
        x.move(0, 1);
        x.move(1, 0);
        Check.is("back", x.swap(0, 1), false);
        Check.says("37: AT one HOUSE both: nothing is changed");
        LeanCity z = Check.city("house weight 9 firm 0;person at 0 hold 4;person at 0 hold 4");
        Check.is("both AT 0", z.swap(0, 1), false);
        Check.says("37: one AT none: the other one goes there");
        LeanCity w = Check.city("house weight 30 firm 10;" + ONE + ";person at 0 hold 8;person at 1 hold 20");
        w.raze(1);
        Check.is("20 comes", w.swap(0, 1), true);
        Check.says("37: in EVENING");
        LeanCity e = Check.city("house weight 30 firm 10;house weight 9 firm 9;person at 0 hold 8;person at 1 hold 20 on 0111111");
        Check.is("not there in EVENING 0", e.swap(0, 1), false);
        Check.more(e, "evening 1");
        Check.is("there in EVENING 1", e.swap(0, 1), true);
    }

    private static void rests() {
        LeanCity x = Check.city(ONE + ";person at 0 hold 19;person at 0 hold 20;person at 0 hold 0;person at 0 hold 99;person at 0 hold 10");
        Check.says("38: by 19 one has 3 less, as who goes home has: no more");
        Check.is("19 and 0", x.rests(0, 2), 9);
        Check.is("0 and 19", x.rests(2, 0), 9);
        Check.is("10 and 19", x.rests(4, 0), 9);
        Check.says("38: by 20 one has 2 less: more");
        Check.is("20 and 0", x.rests(1, 2), 1);
        Check.is("0 and 20", x.rests(2, 1), 1);
        Check.is("99 and 20", x.rests(3, 1), 1);
        Check.is("0 and 99", x.rests(2, 3), 1);
        Check.is("99 and 0", x.rests(3, 2), 1);
        Check.is("20 and 99", x.rests(1, 3), 1);
        Check.says("38: of those AT none, too, whatever EVENING it is");
        x.raze(0);
        Check.is("20 and 0", x.rests(1, 2), 1);
        Check.is("0 and 10", x.rests(2, 4), 9);
    }

    private static void odds() {
        Check.says("39: of 0 EVENINGS 10000, of WANDER 0 too, of nobody too");
        LeanCity x = Check.city(ONE + ";person at 0 hold 1;person at 0 hold 1;person at 0 hold 1;person at 0 hold 1;wander 1");
        Check.is("odds(0)", x.odds(0), 10000);
        Check.says("39: rounded down each time");
        // 9900, 9801, 9702 (.99), 9604 (.98); 9507, 9411, 9316, 9222.
        Check.is("odds(1)", x.odds(1), 9604);
        Check.is("odds(2)", x.odds(2), 9222);
        Check.more(x, "wander 0");
        Check.is("WANDER 0", x.odds(4), 10000);
        Check.says("39: WANDER 100: 0");
        Check.more(x, "wander 100");
        Check.is("odds(1)", x.odds(1), 0);
        Check.is("odds(0)", x.odds(0), 10000);
        Check.says("39: each person AT a HOUSE");
        Check.more(x, "wander 50;" + ONE + ";person at 1 hold 1");
        Check.is("five", x.odds(1), 312);
        x.raze(0);
        Check.is("one", x.odds(1), 5000);
        Check.is("one, in 4", x.odds(4), 625);
        x.raze(1);
        Check.is("nobody", x.odds(4), 10000);
        Check.says("39: each EVENING alike, also of who is not there in it");
        LeanCity y = Check.city(ONE + ";person at 0 hold 1 on 0000000;person at 0 hold 1 on 0100000;wander 50");
        Check.is("odds(1)", y.odds(1), 2500);
        Check.is("odds(2)", y.odds(2), 625);
    }

    private static void oldest() {
        Check.says("40: the HOUSE of the most AGE, whatever IVY it has");
        Check.is("ivy", Check.city(ONE + " age 5;" + ONE + " ivy 9 age 4;" + ONE + " ivy 9 age 5").oldest(), 0);
        Check.says("40: of several the least");
        LeanCity x = Check.city(ONE + " age 98;" + ONE + " age 99;" + ONE + " age 99");
        Check.is("1 and 2", x.oldest(), 1);
        Check.is("all of AGE 0", Check.city(EIGHT).oldest(), 0);
        Check.says("40: of those not FALLEN");
        x.raze(1);
        Check.is("2", x.oldest(), 2);
        x.raze(2);
        Check.is("0", x.oldest(), 0);
        Check.says("40: none");
        x.raze(0);
        Check.is("none", x.oldest(), LeanCity.NONE);
    }

    private static void there() {
        Check.says("42: people who are AT some HOUSE in it, as bits");
        LeanCity x = Check.city(TWO + ";person at 0 hold 0 on 1000001;person at 1 hold 5 on 0000001;person at 0 hold 1 on 0000000;"
                + "person at 0 hold 1;person at 0 hold 1;person at 1 hold 1 on 1000000");
        Check.is("EVENING 0", x.there(0), 0b111001);
        Check.is("EVENING 1", x.there(1), 0b011000);
        Check.is("EVENING 6", x.there(6), 0b011011);
        Check.says("42: not those AT none");
        x.raze(1);
        Check.is("EVENING 0", x.there(0), 0b011001);
        Check.is("EVENING 6", x.there(6), 0b011001);
    }

    private static void twins() {
        Check.says("43: pairs of HOUSES of like WEIGHT and FIRM");
        Check.is("eight", Check.city(EIGHT).twins(), 28);
        Check.is("WEIGHT alone", Check.city("house weight 9 firm 1;house weight 9 firm 2").twins(), 0);
        Check.is("FIRM alone", Check.city("house weight 8 firm 1;house weight 9 firm 1").twins(), 0);
        Check.is("IVY and AGE do not matter", Check.city("house weight 9 firm 1 ivy 5;house weight 9 firm 1 age 5").twins(), 1);
        Check.says("43: of HOUSES as they are, not as one was that was undone");
        LeanCity again = Check.city(ONE);
        for (int firm = 99; firm >= 98; firm--) {
            again.build(9, 99, 0, 1);
            Check.is("twins", again.twins(), 1);
            Check.is("key", again.key(), 0);
            again.undo();
            again.build(firm == 99 ? 8 : 9, firm, 0, 1);
            Check.is("none any more", again.twins(), 0);
            again.undo();
        }
        Check.says("43: of those not FALLEN");
        LeanCity x = Check.city(TWO + ";" + ONE);
        x.raze(1);
        Check.is("two", x.twins(), 1);
        x.raze(0);
        Check.is("one", x.twins(), 0);
    }

    private static LeanCity old(int evening) {
        LeanCity x = Check.city("house weight 5 firm 9;" + ONE + ";evening " + evening);
        Check.law(x, "soft 9 if age > 9 and weight < 6");
        return x;
    }

    private static void down() {
        Check.says("45: the first N (1 to 70): 1");
        LeanCity x = Check.city("house weight 9 firm 8");
        Check.is("at once", x.down(), 1);
        Check.says("45: 70");
        Check.is("70", old(2).down(), 70);
        Check.says("45: none: 71");
        Check.is("71", old(1).down(), LeanCity.NONE);
        Check.says("45: some HOUSE more");
        x.evenings(1);
        Check.is("all are FALLEN", x.down(), LeanCity.NONE);
        LeanCity y = old(2);
        y.raze(1);
        Check.is("70", y.down(), 70);
        Check.says("45: AHEAD: without (c)");
        Check.is("nobody wanders", Check.city("house weight 9 firm 8;" + ONE + ";person at 0 hold 1;wander 100").down(), LeanCity.NONE);
        Check.says("45: by EVENINGS of the week, too");
        Check.is("in EVENING 6", Check.city("house weight 9 firm 8;person at 0 hold 1 on 1111110;evening 1").down(), 6);
        Check.is("in EVENING 0", Check.city("house weight 9 firm 8;person at 0 hold 1 on 0111111;evening 1").down(), 7);
    }

    private static void ahead() {
        Check.says("46: N EVENINGS (0 to 70): 0: as it is now");
        LeanCity x = Check.city("house weight 9 firm 8;" + ONE);
        Check.is("0", x.ahead(0), 3);
        Check.is("1", x.ahead(1), 2);
        Check.says("46: 70");
        Check.is("69", old(2).ahead(69), 3);
        Check.is("70", old(2).ahead(70), 2);
        Check.is("70, where 71 would take it", old(1).ahead(70), 3);
        Check.says("46: no DRAWS");
        LeanCity y = Check.city("house weight 9 firm 8;" + ONE + ";person at 0 hold 1;wander 100");
        Check.is("nobody wanders", y.ahead(70), 3);
        Check.is("seed", y.seed(1), 1);
    }

    private static void trial() {
        Check.says("47: of 0 EVENINGS: as it is now");
        LeanCity x = Check.city("house weight 9 firm 8;" + TWO + ";person at 0 hold 1;person at 1 hold 40 on 0000000;wander 39");
        Check.is("HOUSES", x.trial(0, false), 7);
        Check.is("HOLD", x.trial(0, true), 41);
        Check.says("47: draws, too");
        // DRAWS: 38 wanders to 1 (5758 by 3); 13 to 1 (17515 by 3). In the next EVENING nobody holds 0.
        Check.is("1", x.trial(1, false), 7);
        Check.is("2", x.trial(2, false), 6);
        Check.is("HOLD", x.trial(2, true), 41);
        Check.says("47: from now: by SEED as it is");
        x.seed(1103527590);
        // 58 stays, 13 goes: 0 is held on.
        Check.is("1", x.trial(2, false), 7);
        Check.says("47: HOLD of all who are AT some then");
        LeanCity y = Check.city("house weight 9 firm 0;" + ONE + ";person at 0 hold 8;person at 1 hold 40");
        Check.is("0", y.trial(0, true), 48);
        Check.is("1", y.trial(1, true), 40);
        Check.says("47: 70");
        Check.is("69", old(2).trial(69, false), 3);
        Check.is("70", old(2).trial(70, false), 2);
    }

    private static void span() {
        Check.says("48: the least and the greatest number, of 0 EVENINGS: as it is now");
        LeanCity x = Check.city("house weight 9 firm 8;" + TWO + ";person at 0 hold 1;wander 39");
        Check.is("least", x.span(0, false), 3);
        Check.is("greatest", x.span(0, true), 3);
        Check.says("48: from SEED 1, 2, .. 6, whatever SEED is");
        // From SEED 1 it wanders in the first EVENING; not all do.
        x.seed(-5);
        Check.is("least of 2", x.span(2, false), 2);
        Check.is("greatest of 2", x.span(2, true), 3);
        Check.is("seed", x.seed(0), -5);
        for (int n : new int[] {1, 2, 3, 5, 8}) {
            int least = 9;
            int most = -1;
            for (int seed = 1; seed <= 6; seed++) {
                x.seed(seed);
                int up = Integer.bitCount(x.trial(n, false));
                least = Math.min(least, up);
                most = Math.max(most, up);
            }
            Check.is("least of " + n, x.span(n, false), least);
            Check.is("greatest of " + n, x.span(n, true), most);
        }
        Check.says("48: SEED 1 and SEED 6 are of these");
        // Of SEED 1 one stands then, of 2 to 5 two, of 6 three.
        LeanCity ends = Check.city("house weight 5 firm 1;house weight 5 firm 9;house weight 5 firm 2;person at 0 hold 9;person at 2 hold 3;wander 30");
        Check.is("least", ends.span(4, false), 1);
        Check.is("greatest", ends.span(4, true), 3);
        Check.says("48: SEED 0 and SEED 7 are not");
        // Of SEED 0 and 7 two stand then, of 1 to 6 one.
        LeanCity beyond = Check.city("house weight 9 firm 5;house weight 9 firm 9;house weight 9 firm 2;person at 0 hold 7;wander 31");
        Check.is("least", beyond.span(4, false), 1);
        Check.is("greatest", beyond.span(4, true), 1);
        Check.says("48: 70");
        Check.is("69", old(2).span(69, false), 2);
        Check.is("70, least", old(2).span(70, false), 1);
        Check.is("70, greatest", old(2).span(70, true), 1);
        Check.says("48: all eight");
        Check.is("least", Check.city(EIGHT).span(70, false), 8);
        Check.is("greatest", Check.city(EIGHT).span(70, true), 8);
    }

    private static LeanCity some() {
        LeanCity x = Check.city("house weight 40 firm 20 ivy 3 age 9;house weight 20 firm 30;house weight 30 firm 31 ivy 2;lean 0 1 part 4;"
                + "lean 2 0 part 3;person at 1 hold 4 on 0111110;person at 0 hold 25;person at 2 hold 7;wander 60;prop 7;evening 6;week 8");
        Check.law(x, "grow 1 if leant;firm 2 if held;soft 3 if evening < 2");
        x.image();
        x.trim(2);
        x.seed(4711);
        return x;
    }

    private static void nothingStays() {
        Check.says("a question changes nothing but the TAPE, where it is used up");
        String due = State.deep(some());
        for (int which = 0; which < 30; which++) {
            LeanCity x = some();
            ask(x, which);
            Check.is("all behind question " + which, State.deep(x), due);
        }
    }

    private static void ask(LeanCity x, int which) {
        switch (which) {
            case 0: x.falls(0); break;
            case 1: x.rounds(6); break;
            case 2: x.pulls(1); break;
            case 3: x.key(); break;
            case 4: x.spare(); break;
            case 5: x.weakest(); break;
            case 6: x.props(0); break;
            case 7: Check.order(x, 0, 0, 1, 2); break;
            case 8: Check.means(x, 0, 1, 2); break;
            case 9: Check.broken(x, true, 0, 1); break;
            case 10: Check.broken(x, false); break;
            case 11: Check.tap(x); break;
            case 12: x.eases(); break;
            case 13: x.sagging(); break;
            case 14: x.ring(0); x.held(0); break;
            case 15: x.ends(); x.straight(); x.leans(); x.twins(); break;
            case 16: x.apart(0); x.pieces(); break;
            case 17: x.gates(-1); break;
            case 18: x.gates(1); break;
            case 19: x.swap(0, 1); break;
            case 20: x.rests(0, 1); break;
            case 21: x.odds(4); break;
            case 22: x.oldest(); x.there(0); break;
            case 23: x.down(); break;
            case 24: x.ahead(70); break;
            case 25: x.trial(70, true); break;
            case 26: x.span(70, true); break;
            case 27: x.led(0, true); x.log(0, 0); break;
            case 28: x.person(0, 3); break;
            default: x.count(9); x.house(0, 10); x.part(0, 1); x.fault(); break;
        }
    }
}
