/** Each question of part 3 where THE LAW decides, where the EVENING decides, and where HOUSE 7 or person 5 is the one. */
public final class ByLawAndEvening {
    private static final String ONE = "house weight 9 firm 99";
    private static final String SEVEN = ONE + ";" + ONE + ";" + ONE + ";" + ONE + ";" + ONE + ";" + ONE + ";" + ONE;
    private static final String SOFT = "house weight 9 firm 0";
    private static final String SEVEN_SOFT = SOFT + ";" + SOFT + ";" + SOFT + ";" + SOFT + ";" + SOFT + ";" + SOFT + ";" + SOFT;

    public static void main(String[] args) {
        fallsByLaw();
        takenAwayByLaw();
        easedByLaw();
        peopleByLaw();
        timesByLaw();
        needsByEvening();
        asTheLawIsNow();
        lastLine();
        lastHouse();
        lastHouseByLeans();
        lastPerson();
        Check.done();
    }

    private static LeanCity under(String law, String city) {
        LeanCity x = Check.city(city);
        Check.law(x, law);
        return x;
    }

    private static void fallsByLaw() {
        Check.says("18, 19: FALLS, ROUNDS by THE LAW");
        LeanCity x = under("firm 9 if evening < 3;soft 1 if evening > 4", SOFT + ";" + ONE.replace("99", "9"));
        int[] due = {0, 0, 0, 1, 1, 3, 3};
        for (int e = 0; e < 7; e++) {
            Check.is("falls(" + e + ")", x.falls(e), due[e]);
            Check.is("rounds(" + e + ")", x.rounds(e), due[e] == 0 ? 0 : 1);
        }
        Check.says("18: by THE LAW as it is in each round");
        LeanCity y = under("soft 99 if leant", ONE + ";" + ONE.replace("weight 9", "weight 99") + ";lean 1 0 part 1");
        Check.is("0 by what leans on it, then 1 by its own WEIGHT not", y.falls(0), 1);
        Check.is("it has 49 and 9 on 0", y.house(0, 8), 58);
        LeanCity z = under("firm 9 if leaning", SOFT + ";" + SOFT.replace("9", "8") + ";lean 1 0 part 1");
        Check.is("1 stands as long as it leans", z.falls(0), 3);
        Check.is("two rounds", z.rounds(0), 2);
        Check.says("23: WEAKEST by THE LAW");
        Check.is("5", x.weakest(), 5);
        Check.says("24: PROPS by THE LAW");
        Check.is("props(0)", x.props(0), 0);
        Check.is("props(3)", x.props(3), 1);
        Check.is("props(6)", x.props(6), 3);
        Check.law(x, "soft 99");
        Check.is("PROP comes on top of STANDS, which is 0 at least", x.props(0), 3);
        Check.is("it stands by 0", x.house(1, 7), 0);
    }

    private static void takenAwayByLaw() {
        Check.says("20, 21: PULLS, KEY by THE LAW");
        LeanCity x = under("firm 9 if house < 1 or house > 1", SOFT + ";" + ONE + ";" + SOFT);
        Check.is("pulls(1)", x.pulls(1), 1);
        Check.is("key", x.key(), 0);
        Check.law(x, "firm 9 if leant;firm 9 if house > 1");
        Check.more(x, "lean 2 0 part 1");
        Check.is("0 stands by THE LAW", x.pulls(1), 2);
        Check.law(x, "firm 99 if leant;firm 9 if house > 1");
        Check.is("0 stands by THE LAW, 99", x.pulls(1), 1);
        Check.is("0, then 2 stands by its own", x.pulls(0), 1);
        Check.is("2, then 0 has none that leans on it", x.pulls(2), 2);
        Check.is("key", x.key(), 2);
        Check.says("25, 26: ORDER, MEANS by THE LAW");
        // 1 and 2 fall with 0, on which they lean; 0 stands by THE LAW alone.
        LeanCity y = under("firm 99 if house < 1", "house weight 1 firm 0;" + SOFT + ";" + SOFT + ";lean 1 0 part 1;lean 2 0 part 1");
        Check.is("1 first", Check.order(y, 0, 0, 1), 1);
        Check.is("then 0", Check.order(y, 1, 0, 1), 0);
        Check.is("0 and 2 behind 1", Check.means(y, 0, 1), 2);
        Check.law(y, "firm 0");
        Check.is("all at once: the first order", Check.order(y, 0, 0, 1), 0);
        Check.is("all at once", Check.means(y, 0, 1), 0);
        Check.says("27, 28: BROKEN, TAP by PRESS, which no LAW changes");
        LeanCity z = Check.city("house weight 40 firm 0;" + ONE + ";" + ONE + ";lean 0 1 part 1;lean 0 2 part 1");
        for (String law : new String[] {"soft 99", "firm 99 if press > 3"}) {
            Check.law(z, law);
            Check.is("lean 0 2", Check.broken(z, true, 1, 20), 2);
            Check.is("lean 0 2, alone", Check.broken(z, false, 1, 20), 1);
            Check.is("tap", Check.tap(z), 1);
        }
    }

    private static void easedByLaw() {
        Check.says("29, 30: EASES, SAGGING by THE LAW");
        LeanCity x = under("firm 60 if house < 1", "house weight 50 firm 0;house weight 40 firm 0;" + ONE.replace("99", "999"));
        Check.is("1 sags the most", x.sagging(), 40);
        Check.is("1 and 2", x.eases(), 10);
        Check.law(x, "firm 60 if house > 0 and house < 2");
        Check.is("0 sags the most", x.sagging(), 50);
        Check.is("0 and 2", x.eases(), 2);
        Check.says("29: of HOUSES that are not FALLEN: by one FALLEN none is eased, as the lesser or the other one");
        LeanCity fallen = Check.city("house weight 1 firm 99;house weight 50 firm 0;house weight 1 firm 99");
        fallen.raze(0);
        Check.is("1 and 2", fallen.eases(), 10);
        fallen.raze(2);
        Check.is("1 alone", fallen.eases(), LeanCity.NONE);
        Check.is("it sags", fallen.sagging(), 50);
        Check.says("29: by THE LAW as it is behind the wedding");
        Check.law(x, "soft 99 if leaning;firm 9 if house > 1");
        Check.is("who leans is soft: 0 bears less by 1 all the same", x.sagging(), 50);
        LeanCity y = under("firm 40 if leant", "house weight 50 firm 0;house weight 9 firm 0;house weight 9 firm 0");
        Check.is("0 and 1: both are leant on", y.eases(), 1);
        LeanCity z = under("soft 99 if leaning", "house weight 10 firm 5;house weight 90 firm 99");
        Check.is("each is soft behind it: 1 gives 45 to 0", z.eases(), LeanCity.NONE);
        Check.law(z, "soft 0 if leaning");
        Check.is("0 would bear 45 and more", z.eases(), LeanCity.NONE);
        Check.law(z, "firm 60 if leant");
        Check.is("0 bears 33 on 65 then", z.eases(), 1);
    }

    private static void peopleByLaw() {
        Check.says("9, 22: NEEDS, SPARE by THE LAW");
        LeanCity x = under("firm 9", SOFT + ";person at 0 hold 9");
        Check.is("needs", x.person(0, 3), 0);
        Check.is("spare", x.spare(), 1);
        Check.law(x, "firm 9 if held");
        Check.is("needs", x.person(0, 3), 1);
        Check.is("spare", x.spare(), 0);
        Check.says("36: GATES by THE LAW as it is without any people");
        LeanCity y = under("soft 5 if evening > 0", ONE.replace("99", "9") + ";person at 0 hold 9");
        Check.is("EVENING 0", y.gates(LeanCity.NONE), 0);
        Check.more(y, "evening 1");
        Check.is("EVENING 1", y.gates(LeanCity.NONE), 5);
        Check.is("the person", y.gates(0), 0);
        Check.law(y, "firm 3 if held;soft 4");
        Check.is("nobody holds", y.gates(LeanCity.NONE), 4);
        Check.law(y, "soft 99 if held");
        Check.is("nobody makes it soft", y.gates(LeanCity.NONE), 0);
        Check.says("36: none being the least also for who is not the first");
        LeanCity w = Check.city("house weight 50 firm 0;house weight 5 firm 0;person at 0 hold 50;person at 0 hold 5;person at 0 hold 9");
        Check.is("0 to 0, and 1 or 2 to 1", w.gates(LeanCity.NONE), 55);
        Check.is("0", w.gates(0), 0);
        Check.is("1", w.gates(1), LeanCity.NONE);
        Check.is("2", w.gates(2), 1);
        Check.says("37: SWAP by THE LAW");
        LeanCity z = under("firm 4", SOFT + ";" + ONE + ";person at 0 hold 0;person at 1 hold 5");
        Check.is("5 and 4 are enough", z.swap(0, 1), true);
        Check.law(z, "firm 3");
        Check.is("5 and 3 are not", z.swap(0, 1), false);
        Check.law(z, "firm 9");
        Check.is("0 stands by THE LAW", z.swap(0, 1), false);
    }

    private static void timesByLaw() {
        Check.says("45 to 48, 10: EVENINGS ahead by THE LAW");
        LeanCity x = under("firm 9 if evening < 3 or evening > 4", SOFT + ";" + ONE);
        Check.is("down", x.down(), 4);
        Check.is("ahead(3)", x.ahead(3), 3);
        Check.is("ahead(4)", x.ahead(4), 2);
        Check.is("trial(3)", x.trial(3, false), 3);
        Check.is("trial(4)", x.trial(4, false), 2);
        Check.is("span(3)", x.span(3, false), 2);
        Check.is("span(4)", x.span(4, true), 1);
        Check.more(x, "evening 4");
        Check.is("down from 4", x.down(), 1);
        Check.more(x, "evening 5");
        Check.is("down from 5", x.down(), 6);
        Check.is("ahead(5)", x.ahead(5), 3);
        Check.is("ahead(6)", x.ahead(6), 2);
        Check.is("trial(6)", x.trial(6, false), 2);
        Check.is("span(5)", x.span(5, true), 2);
        Check.is("span(6)", x.span(6, true), 1);
        Check.is("evenings(5)", x.evenings(5), 0);
        Check.is("evenings(1)", x.evenings(1), 1);
        Check.is("EVENING", x.log(0, 1), 3);
        Check.says("48: SPAN, where all wander each EVENING");
        LeanCity y = Check.city("house weight 9 firm 8;" + ONE + ";person at 0 hold 1;wander 100");
        Check.is("the least: it is AT 1 once", y.span(70, false), 1);
        Check.is("the greatest: nobody stays AT 0 so often", y.span(70, true), 1);
        Check.is("the first FALL is ahead of wandering", y.span(1, false), 2);
        // From SEED 1, 2, .. 6 the second DRAW is even, odd, odd, even, odd, odd.
        Check.is("AT 1 from some SEED", y.span(2, false), 1);
        Check.is("AT 0 from some SEED", y.span(2, true), 2);
        // From SEED 5 alone the second DRAW modulo 7 is 1; its first one, 18655, is below no WANDER up to 55.
        LeanCity seven = Check.city(SEVEN + ";person at 6 hold 1;wander 100");
        Check.law(seven, "soft 99 if held and house > 0 and house < 2");
        Check.is("AT 1 from SEED 5", seven.span(2, false), 6);
        Check.is("AT another one from SEED 1", seven.span(2, true), 7);
        Check.more(seven, "wander 55");
        Check.is("from SEED 5 it does not wander", seven.span(2, false), 7);
        Check.more(seven, "wander 56");
        Check.is("from SEED 5 it wanders", seven.span(2, false), 6);
    }

    private static void needsByEvening() {
        Check.says("9: NEEDS in EVENING, with and without the person");
        LeanCity x = Check.city(SOFT + ";person at 0 hold 9;person at 0 hold 9 on 1000000;evening 1");
        Check.is("the other one is there in EVENING 0 alone", x.person(0, 3), 1);
        LeanCity y = Check.city(SOFT + ";person at 0 hold 9 on 0100000;evening 1");
        Check.is("it stands in EVENING 1 alone", y.person(0, 3), 1);
        Check.says("22: HOUSES more in each EVENING than fall in that one");
        Check.is("0 falls without 1, too, in 1 to 6", Check.city(SOFT + ";person at 0 hold 9 on 1000000;person at 0 hold 0").spare(), 2);
        Check.says("37: SWAP in EVENING, as it is and as it would be");
        LeanCity z = Check.city(SOFT + ";house weight 1 firm 99;person at 1 hold 9;person at 0 hold 0;person at 0 hold 9 on 1000000;evening 1");
        Check.is("the third one is there in EVENING 0 alone", z.swap(0, 1), true);
        Check.says("38: RESTS of one who is not there is as of another one");
        LeanCity w = Check.city(ONE + ";person at 0 hold 20 on 0000000;person at 0 hold 20;person at 0 hold 0 on 0000000");
        Check.is("20 not there", w.rests(0, 2), 1);
        Check.is("20 there", w.rests(1, 2), 1);
        Check.is("both", w.rests(0, 1), 1);
    }

    private static void asTheLawIsNow() {
        Check.says("THE LAW in place of the one before decides at once, and by going back that one again");
        LeanCity x = Check.city(SOFT);
        Check.is("without", x.falls(0), 1);
        Check.law(x, "firm 9");
        x.image();
        Check.is("firm", x.falls(0), 0);
        Check.law(x, "firm 8");
        Check.is("less firm", x.falls(0), 1);
        Check.tape(x, "firm 9;firm");
        Check.fails("law", IllegalArgumentException.class, x::law);
        Check.is("one that is wrong", x.falls(0), 1);
        x.back();
        Check.is("going back", x.falls(0), 0);
        Check.law(x, "");
        Check.is("of no LINE", x.falls(0), 1);
    }

    private static void lastLine() {
        Check.says("THE LAW: the 12th LINE by its own C, also behind going back");
        String eleven = "firm 1 if weight > 0;soft 1;grow 1;firm 1;soft 1;grow 1;firm 1;soft 1;grow 1;firm 1;soft 1;";
        LeanCity x = under(eleven + "firm 50 if house > 0 and age < 3", SOFT + ";" + SOFT + ";" + SOFT + " age 3");
        x.image();
        for (int times = 0; times < 2; times++) {
            int[] due = {0, 50, 0};
            for (int h = 0; h < 3; h++) {
                Check.is("stands " + h, x.house(h, 7), due[h]);
                Check.is("grows " + h, x.house(h, 9), 3);
            }
            Check.law(x, eleven + "grow 50 if house < 1 or age > 2");
            Check.is("grows 0", x.house(0, 9), 53);
            Check.is("grows 1", x.house(1, 9), 3);
            Check.is("grows 2", x.house(2, 9), 53);
            Check.law(x, "soft 1");
            x.back();
        }
    }

    private static void lastHouse() {
        Check.says("HOUSE 7 is told as all others: what falls");
        LeanCity x = Check.city(SEVEN + ";" + SOFT);
        Check.is("falls", x.falls(0), 128);
        Check.is("props", x.props(0), 128);
        Check.is("ends", x.ends(), 255);
        Check.is("straight", x.straight(), 255);
        Check.is("pulls", x.pulls(7), 1);
        Check.is("pulls of 0", x.pulls(0), 2);
        Check.is("weakest", x.weakest(), 0);
        Check.is("sagging", x.sagging(), 9);
        Check.is("eases", x.eases(), 7);
        Check.is("ahead", x.ahead(1), 127);
        Check.is("trial", x.trial(1, false), 127);
        Check.is("span", x.span(1, true), 7);
        Check.is("down", x.down(), 1);
        Check.is("evenings", x.evenings(1), 1);
        Check.is("log", x.log(0, 2), 7);
        Check.is("led", x.led(7, false), 1);
        Check.is("up", x.count(8), 127);
        Check.is("fallen", x.house(7, 4), 1);
        LeanCity heavy = Check.city(SEVEN + ";house weight 21 firm 0;person at 0 hold 5");
        Check.is("more than PROP", heavy.props(0), LeanCity.NONE);
        Check.is("gates", heavy.gates(LeanCity.NONE), 5);
        Check.is("gates of 0", heavy.gates(0), 7);
        Check.more(heavy, "prop 21");
        Check.is("PROP", heavy.props(0), 128);
        Check.says("HOUSE 7 is told as all others: taken away");
        LeanCity y = Check.city(SEVEN_SOFT + ";house weight 1 firm 999");
        for (int h = 0; h < 7; h++) {
            y.lean(h, 7, 1);
        }
        Check.is("key", y.key(), 7);
        Check.is("pulls", y.pulls(7), 8);
        Check.is("order", Check.order(y, 1, 7, 6), 7);
        Check.is("means: 7 and 0 to 5 behind 6", Check.means(y, 7, 6), 7);
        Check.is("press", y.house(7, 5), 28);
        Check.is("bears", y.house(7, 6), 29);
        Check.is("share", y.house(7, 10), 100);
        Check.is("broken", Check.broken(y, false, 7, 24), 7);
        Check.is("which", Check.broken(y, true, 7, 24), 7);
        Check.is("raze", y.raze(7), 29);
    }

    private static void lastHouseByLeans() {
        Check.says("HOUSE 7 is told as all others: LEANS");
        LeanCity x = Check.city(SEVEN + ";" + ONE.replace("9 firm", "11 firm") + ";lean 7 6 part 9;lean 6 5 part 1;lean 5 7 part 1;person at 7 hold 4");
        Check.is("part", x.part(7, 6), 9);
        Check.is("ring", x.ring(7), true);
        Check.is("held", x.held(7), 224);
        Check.is("held of 5", x.held(5), 224);
        Check.is("ends", x.ends(), 31);
        Check.is("straight", x.straight(), 31);
        Check.is("pieces", x.pieces(), 6);
        Check.is("leans", x.leans(), 3);
        Check.is("apart", x.apart(7), 0);
        x.lean(5, 7, 0);
        Check.is("ring", x.ring(7), false);
        Check.is("ends", x.ends(), 63);
        Check.is("apart", x.apart(6), 1);
        Check.is("twins of 7", x.twins(), 21);
        Check.is("gate", x.house(7, 12), 1);
        Check.is("place", x.person(0, 0), 7);
        Check.is("raze", x.raze(7), 0);
        Check.is("place", x.person(0, 0), LeanCity.NONE);
        Check.is("leans", x.leans(), 1);
        LeanCity y = Check.city(SEVEN + ";" + ONE + " ivy 2 age 1;lean 0 7 part 1;lean 7 1 part 1");
        Check.is("apart", y.apart(7), 1);
        Check.is("oldest", y.oldest(), 7);
        Check.is("twins", y.twins(), 28);
        Check.is("trim", y.trim(7), 2);
        Check.is("wed", y.wed(6, 7), 1);
        Check.is("and on it", y.part(7, 6), 1);
        // PRESS of 7 is 10; without a LEAN of 0, of 6 on it 6, 4; without one of its own on 1, on 6 14, 8: each alone.
        Check.is("tap", Check.tap(y), 7);
        Check.says("HOUSE 7 is told as all others: IVY, AGE, wandering");
        Check.law(y, "grow 3 if house > 6");
        Check.more(y, "person at 0 hold 1;wander 100");
        y.seed(2);
        y.evenings(1);
        Check.is("ivy", y.house(7, 2), 3);
        Check.is("age", y.house(7, 3), 2);
        // From SEED 2 the first DRAW is 908, the second 22817: 1 of 8.
        Check.is("AT 1", y.person(0, 0), 1);
        for (int seed = 0; seed < 40 && y.person(0, 0) != 7; seed++) {
            y.seed(seed);
            y.evenings(1);
        }
        Check.is("AT 7 at some time", y.person(0, 0), 7);
    }

    private static void lastPerson() {
        Check.says("person 5 is told as all others");
        LeanCity x = Check.city(SOFT + ";" + SOFT + ";person at 1 hold 0;person at 1 hold 0;person at 1 hold 0;person at 1 hold 0;person at 1 hold 0;"
                + "person at 0 hold 9 on 0000001;evening 6");
        Check.is("hold", x.person(5, 1), 9);
        Check.is("days", x.person(5, 2), 64);
        Check.is("needs", x.person(5, 3), 1);
        Check.is("spare", x.spare(), 31);
        Check.is("falls", x.falls(6), 2);
        Check.is("falls", x.falls(5), 3);
        Check.is("there", x.there(6), 63);
        Check.is("there", x.there(5), 31);
        Check.is("gate", x.house(0, 12), 32);
        Check.is("gates", x.gates(LeanCity.NONE), 9);
        Check.is("gates of 5", x.gates(5), 0);
        Check.is("swap", x.swap(5, 0), false);
        Check.is("rests", x.rests(5, 0), 9);
        Check.is("trial", x.trial(0, true), 9);
        Check.is("come", x.come(5, 6, false), true);
        Check.is("days", x.person(5, 2), 0);
        Check.is("move", x.move(5, 1), 0);
        Check.is("gate", x.house(1, 12), 63);
        Check.more(x, "wander 50");
        Check.is("odds", x.odds(1), 156);
        x.raze(1);
        Check.is("AT none", x.person(5, 0), LeanCity.NONE);
        Check.is("odds", x.odds(1), 10000);
        Check.says("person 5 is told as all others: it draws, and wanders");
        LeanCity y = Check.city(SEVEN + ";" + ONE + ";person at 0 hold 1;person at 0 hold 1;person at 0 hold 1;person at 0 hold 1;person at 0 hold 1;"
                + "person at 0 hold 1");
        y.evenings(1);
        Check.is("SEED by six DRAWS", y.seed(1), -1778682749);
        Check.more(y, "wander 100");
        y.evenings(1);
        // From SEED 1 the DRAWS are 16838, 5758, 10113, 17515, 31051, 5627, 23010, 7419, 16212, 4086, 2749, 12767: each second one by 8.
        int[] due = {6, 3, 3, 3, 6, 7};
        for (int p = 0; p < 6; p++) {
            Check.is("AT", y.person(p, 0), due[p]);
        }
    }
}
