/** Promises 1 to 6: a new object, the tape, the texts and where they are wrong. */
public final class TextPromises {
    public static void main(String[] args) {
        newObject();
        feeding();
        ending();
        cities();
        wrongCities();
        manyTexts();
        laws();
        wrongLaws();
        faults();
        Check.done();
    }

    private static void newObject() {
        LeanCity x = new LeanCity();
        int[] due = {0, 0, 0, -1, 0, 0, 0, 20, 0, 0, 0, 0, -1, -1};
        for (int what = 0; what < due.length; what++) {
            Check.is("new count(" + what + ")", x.count(what), due[what]);
        }
        Check.is("new fault", x.fault(), LeanCity.NONE);
        Check.is("new undo", x.undo(), false);
        Check.is("new back", x.back(), false);
        Check.is("new seed", x.seed(5), 1);
        Check.fails("new house", IndexOutOfBoundsException.class, () -> x.house(0, 0));
        Check.fails("new person", IndexOutOfBoundsException.class, () -> x.person(0, 0));
    }

    private static void feeding() {
        LeanCity x = new LeanCity();
        for (int n = 1; n <= 20; n++) {
            Check.is("feed " + n, x.feed(-1, 1, 2, 3, 4), 20 * n);
        }
        Check.is("feed beyond 400", x.feed(0, 0, 0, 0, 0), LeanCity.NONE);
        Check.is("end(400)", x.end(400), true);
        Check.is("end(381)", x.end(381), true);
        Check.is("feed beyond 400 by one", x.feed(0, 0, 0, 0, 0), LeanCity.NONE);
        Check.is("end(380)", x.end(380), true);
        Check.is("feed up to 400", x.feed(0, 0, 0, 0, 0), 400);
        // The highest byte of each number comes first.
        LeanCity y = new LeanCity();
        y.feed(('w' << 24) | ('e' << 16) | ('e' << 8) | 'k', (' ' << 24) | ('9' << 16) | ('9' << 8) | '8', 0, 0, 0);
        y.end(8);
        Check.is("city of fed bytes", y.city(), 1);
        Check.is("its week", y.count(5), 998);
        // What was cut off is no part of the text, though it is the same word or number.
        y.feed(('w' << 24) | ('e' << 16) | ('e' << 8) | 'k', (' ' << 24) | ('1' << 16) | ('2' << 8) | '3', 0, 0, 0);
        y.end(7);
        Check.is("city of what is left", y.city(), 2);
        Check.is("its week", y.count(5), 12);
    }

    private static void ending() {
        LeanCity x = new LeanCity();
        Check.is("end(0)", x.end(0), true);
        Check.is("end(1) of none", x.end(1), false);
        Check.is("end(-1)", x.end(-1), false);
        x.feed(0, 0, 0, 0, 0);
        Check.is("end(21)", x.end(21), false);
        Check.is("end(MIN)", x.end(Integer.MIN_VALUE), false);
        Check.is("feed behind", x.feed(0, 0, 0, 0, 0), 40);
        Check.is("end(7)", x.end(7), true);
        Check.is("feed behind 7", x.feed(0, 0, 0, 0, 0), 27);
    }

    private static void cities() {
        LeanCity x = new LeanCity();
        Check.is("city", Check.more(x, "  house weight1firm  007 age 3 ;person at 0 hold 99 on1000001; wander 100 "), 1);
        Check.is("fault", x.fault(), LeanCity.NONE);
        Check.is("weight", x.house(0, 0), 1);
        Check.is("firm", x.house(0, 1), 7);
        Check.is("ivy", x.house(0, 2), 0);
        Check.is("age", x.house(0, 3), 3);
        Check.is("at", x.person(0, 0), 0);
        Check.is("hold", x.person(0, 1), 99);
        Check.is("evenings", x.person(0, 2), 65);
        Check.is("wander", x.count(6), 100);
        Check.is("second text", Check.more(x, "house weight 99 firm 999 ivy 9 age 99;lean 0 1 part 9;lean 1 0 part 0;prop 99"), 2);
        Check.is("part", x.part(0, 1), 9);
        Check.is("part back", x.part(1, 0), 0);
        Check.is("ivy 9", x.house(1, 2), 9);
        Check.is("age 99", x.house(1, 3), 99);
        Check.is("prop", x.count(7), 99);
        Check.is("third text", Check.more(x, "lean 0 1 part 0;person at 1 hold 0 on 0100000;evening 6;week 999;prop 1;wander 0"), 3);
        Check.is("part taken away", x.part(0, 1), 0);
        Check.is("evenings 2", x.person(1, 2), 2);
        Check.is("evening", x.count(4), 6);
        Check.is("week", x.count(5), 999);
        Check.is("blanks alone", Check.more(x, "    "), 4);
        Check.is("fault of blanks", x.fault(), LeanCity.NONE);
        Check.is("texts", x.count(2), 4);
        Check.is("14 lines", Check.more(x, "week 1;week 2;week 3;week 4;week 5;week 6;week 7;week 8;week 9;week 10;week 11;week 12;week 13;week 14"), 5);
        Check.is("last line", x.count(5), 14);
        Check.is("tape is used up", x.feed(0, 0, 0, 0, 0), 20);
    }

    private static void wrongCities() {
        Check.wrongCity(";", 0);
        Check.wrongCity("House weight 1 firm 1", 0);
        Check.wrongCity("houses weight 1 firm 1", 0);
        Check.wrongCity("housez weight 1 firm 1", 0);
        Check.wrongCity("  houseweight 1 firm 1", 2);
        Check.wrongCity("house  ", 7);
        Check.wrongCity("house firm 1", 6);
        Check.wrongCity("house weight", 12);
        Check.wrongCity("house weight firm", 13);
        Check.wrongCity("house weight 100 firm 1", 13);
        Check.wrongCity("house weight 0001 firm 1", 13);
        Check.wrongCity("house weight 1 firm 1 age 1 ivy 1", 28);
        Check.wrongCity("house weight 1 firm 1 ivy 1 ivy 1", 28);
        Check.wrongCity("house weight 1 firm 1,", 21);
        Check.wrongCity("house weight 1\tfirm 1", 14);
        Check.wrongCity("house weight 1 firm 1;lean 0 1 part 1", 29);
        Check.wrongCity("house weight 1 firm 1;lean 0", 28);
        Check.wrongCity("house weight 1 firm 1;lean 01 part 1", 27);
        Check.wrongCity("house weight 1 firm 1;house weight 1 firm 1;lean 01 part 1", 52);
        Check.wrongCity("house weight 1 firm 1;house weight 1 firm 1;lean 0 1 2", 53);
        Check.wrongCity("house weight 1 firm 1;person 0", 29);
        Check.wrongCity("house weight 1 firm 1;person at 0 hold 1 on 11111111", 44);
        Check.wrongCity("house weight 1 firm 1;person at 0 hold 1 on", 43);
        Check.wrongCity("house weight 1 firm 1;person at 0 hold 1 on x", 44);
        Check.wrongCity("house weight 1 firm 1;person at 0 hold 1 on 1111112", 44);
        Check.wrongCity("house weight 1 firm 1;person at 0 hold 1 on 9000000", 44);
        Check.wrongCity("evening 7", 8);
        Check.wrongCity("evening 8", 8);
        Check.wrongCity("prop 100", 5);
        Check.wrongCity("week 1;week 2;week 3;week 4;week 5;week 6;week 7;week 8;week 9;week 10;week 11;week 12;week 13;week 14;week 15", 103);
        Check.wrongCity("week 1 ;", 8);
        Check.wrongCity("week 1 ;  ;", 10);
        Check.wrongCity("week 1 week 2", 7);
        Check.wrongCity("wander -1", 7);
        LeanCity x = Check.city("house weight 5 firm 5;week 7;person at 0 hold 1;person at 0 hold 2;person at 0 hold 3");
        x.raze(0);
        Check.wrongCity(x, "person at 0 hold 1", 10);
        Check.wrongCity(x, "house weight 1 firm 1;lean 1 0 part 1", 29);
        Check.wrongCity(x, "week 8;house weight 1 firm 1;person at 1 hold 1;person at 1 hold 1;person at 1 hold 1;  person at", 88);
        Check.is("nothing stays", x.count(5), 7);
        Check.is("no house stays", x.count(0), 1);
        Check.is("no person stays", x.count(1), 3);
        Check.is("no text stays", x.count(2), 1);
        Check.is("acts are still remembered", x.count(11), 1);
        Check.wrongCity(x, "week 1;week 2;week 3;week 4;week 5;week 6;week 7;week 8;week 9;week 10;week 11;week 12;week 13;week 14; ", 104);
        Check.wrongCity(x, "house weight 1 firm 1;house weight 1 firm 1;house weight 1 firm 1;house weight 1 firm 1;"
                + "house weight 1 firm 1;house weight 1 firm 1;house weight 1 firm 1; house x", 155);
    }

    private static void manyTexts() {
        LeanCity x = new LeanCity();
        for (int n = 1; n <= 12; n++) {
            Check.is("text " + n, Check.more(x, "week " + n), n);
        }
        Check.tape(x, "week 50");
        Check.fails("13th text", UnsupportedOperationException.class, x::city);
        Check.is("its fault", x.fault(), LeanCity.NONE);
        Check.is("tape is used up", x.feed(0, 0, 0, 0, 0), 20);
        Check.is("texts", x.count(2), 12);
        Check.is("week", x.count(5), 12);
        Check.tape(x, "weak 50");
        Check.fails("wrong 13th text", IllegalArgumentException.class, x::city);
        Check.is("its fault", x.fault(), 0);
    }

    private static void laws() {
        LeanCity x = Check.city("house weight 40 firm 10 ivy 3 age 20;house weight 21 firm 5;lean 0 1 part 3;"
                + "person at 1 hold 4 on 1000000;evening 0");
        Check.is("law", Check.law(x, "firm 7 if leaning; soft 2 if leant ;grow 3 if not held"), 3);
        Check.is("firm if leaning", x.house(0, 7), 20);
        Check.is("soft if leant", x.house(1, 7), 7);
        Check.is("grow if not held", x.house(0, 9), 3);
        Check.is("no grow if held", x.house(1, 9), 0);
        Check.is("lines", x.count(3), 3);
        Check.is("in place of the one ahead", Check.law(x, "firm 99"), 1);
        Check.is("firm always", x.house(0, 7), 112);
        Check.is("and, or", Check.law(x, "firm 1 if held or leaning and leant;firm 2 if (held or leaning) and leant;"
                + "firm 4 if not (held and leant);firm 8 if not held and leaning"), 4);
        Check.is("stands 0", x.house(0, 7), 13 + 4 + 8);
        Check.is("stands 1", x.house(1, 7), 9 + 1 + 2);
        Check.is("sums", Check.law(x, "firm 1 if house+weight+1>41;firm 2 if 40<weight;firm 4 if ivy+age>22;"
                + "firm 8 if press>19;firm 16 if evening<1;firm 32 if house<1"), 6);
        Check.is("stands 0", x.house(0, 7), 13 + 4 + 16 + 32);
        Check.is("stands 1", x.house(1, 7), 9 + 8 + 16);
        Check.is("0 at least", Check.law(x, "soft 99"), 1);
        Check.is("stands 0", x.house(0, 7), 0);
        Check.is("six deep", Check.law(x, "grow 5 if not(not(not(held)))or((held)and(((not leant))))"), 1);
        Check.is("not held", x.house(0, 9), 5);
        Check.is("six deep held", x.house(1, 9), 0);
        Check.is("empty law", Check.law(x, " "), 0);
        Check.is("lines of the empty law", x.count(3), 0);
        Check.is("no line holds", x.house(0, 7), 13);
        Check.is("12 lines", Check.law(x, "grow 1;grow 1;grow 1;grow 1;grow 1;grow 1;grow 1;grow 1;grow 1;grow 1;grow 1;grow 99"), 12);
        Check.is("sum of 12 lines", x.house(0, 9), 110);
        Check.is("tape is used up", x.feed(0, 0, 0, 0, 0), 20);
        for (int i = 0; i < 60; i++) {
            Check.is("one more law", Check.law(x, "grow 3 if not held and weight + ivy + age + press > 2 and house < 1 + 1 + 1"), 1);
        }
        Check.is("by the latest of many", x.house(0, 9), 3);
        Check.is("by the latest of many, held", x.house(1, 9), 0);
    }

    private static void wrongLaws() {
        Check.wrongLaw(";", 0);
        Check.wrongLaw("firm 1 or held", 7);
        Check.wrongLaw("firm 1 if", 9);
        Check.wrongLaw("firm 1 if ()", 11);
        Check.wrongLaw("firm 1 if held)", 14);
        Check.wrongLaw("firm 1 if (held;grow 1", 15);
        Check.wrongLaw("firm 1 if held leant", 15);
        Check.wrongLaw("firm 1 if held < 2", 15);
        Check.wrongLaw("firm 1 if 2", 11);
        Check.wrongLaw("firm 1 if 2 = 3", 12);
        Check.wrongLaw("firm 1 if 2 + < 3", 14);
        Check.wrongLaw("firm 1 if 2 < 3 < 4", 16);
        Check.wrongLaw("firm 1 if 2 < held", 14);
        Check.wrongLaw("firm 1 if 2 < 1000", 14);
        Check.wrongLaw("firm 1 if firm < 10", 10);
        Check.wrongLaw("firm 1 if (2 + 1) < 4", 16);
        Check.wrongLaw("firm 1 if not", 13);
        Check.wrongLaw("firm 1 if held and", 18);
        Check.wrongLaw("firm 1 if held or or held", 18);
        Check.wrongLaw("firm 1 if ((((((( held", 16);
        Check.wrongLaw("firm 1 if (not (not (not (held", 25);
        Check.wrongLaw("firm 1 if (not (not (not (held)))))", 25);
        Check.wrongLaw("firm 1 if (((not not not held and not held and (", 48);
        Check.wrongLaw("firm 1;;", 7);
        Check.wrongLaw("firm -1", 5);
        Check.wrongLaw("grow 1;grow 1;grow 1;grow 1;grow 1;grow 1;grow 1;grow 1;grow 1;grow 1;grow 1;grow 1;grow 1", 84);
        Check.wrongLaw("grow 1;grow 1;grow 1;grow 1;grow 1;grow 1;grow 1;grow 1;grow 1;grow 1;grow 1;grow 1; x", 85);
        LeanCity x = Check.city("house weight 1 firm 1");
        Check.law(x, "grow 4");
        Check.tape(x, "grow 5;");
        Check.fails("wrong law", IllegalArgumentException.class, x::law);
        Check.is("the law ahead stays", x.house(0, 9), 4);
        Check.is("its lines", x.count(3), 1);
    }

    private static void faults() {
        LeanCity x = new LeanCity();
        Check.tape(x, "week 1000");
        Check.fails("wrong", IllegalArgumentException.class, x::city);
        Check.is("fault", x.fault(), 5);
        Check.tape(x, 9);
        Check.fails("no text", IllegalArgumentException.class, x::means);
        Check.is("fault of the latest text", x.fault(), 5);
        x.image();
        Check.is("right law", Check.law(x, "grow 1"), 1);
        Check.is("no fault", x.fault(), LeanCity.NONE);
        Check.is("back", x.back(), true);
        Check.is("back changes no fault", x.fault(), LeanCity.NONE);
    }
}
