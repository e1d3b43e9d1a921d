/** Promises 29 to 44: loads and leans, and people. */
public final class LeanPromises {
    public static void main(String[] args) {
        easing();
        sagging();
        rings();
        ends();
        pieces();
        gates();
        gatesFirstWay();
        swaps();
        rests();
        odds();
        oldest();
        there();
        twins();
        leans();
        Check.done();
    }

    private static void easing() {
        // 0 bears 50 on 10. Wed to 1 it gives 25 of these and gets half of what 1 has.
        LeanCity x = Check.city("house weight 50 firm 10;house weight 2 firm 90;house weight 30 firm 90");
        // With 1: PRESS of 0 (2 + p) / 2, of 1 (50 + q) / 2: 17, 33. With 2: 0 bears 35 or so.
        Check.is("eases", x.eases(), 1);
        Check.is("nothing was wed", x.leans(), 0);
        Check.is("none can ease", Check.city("house weight 50 firm 10").eases(), LeanCity.NONE);
        Check.is("none in no city", new LeanCity().eases(), LeanCity.NONE);
        // Two alike, wed: PRESS is 49 in the end, rounded down. Of three alike one sags as before: not less than now.
        LeanCity y = Check.city("house weight 50 firm 10;house weight 50 firm 10");
        Check.is("a wedding of both", y.eases(), 1);
        Check.more(y, "house weight 50 firm 10");
        Check.is("only less than now counts", y.eases(), LeanCity.NONE);
        LeanCity z = Check.city("house weight 2 firm 99;house weight 2 firm 99;house weight 50 firm 10;house weight 9 firm 9");
        Check.is("of several the least", z.eases(), 2);
        z.raze(0);
        Check.is("not with one FALLEN", z.eases(), 10);
        // Also when nobody sags above 0.
        Check.is("below 0 too", Check.city("house weight 50 firm 60;house weight 2 firm 90").eases(), 1);
        // 9 at most: a wedding that changes no part eases nothing.
        LeanCity full = Check.city("house weight 50 firm 0;house weight 2 firm 90;lean 0 1 part 9;lean 1 0 part 9");
        Check.is("9 at most", full.eases(), LeanCity.NONE);
    }

    private static void sagging() {
        LeanCity x = Check.city("house weight 50 firm 60;house weight 2 firm 90;person at 0 hold 5 on 1000000");
        Check.is("sagging below 0", x.sagging(), -15);
        x.evenings(1);
        Check.is("in another EVENING", x.sagging(), -10);
        x.raze(0);
        Check.is("of those not FALLEN", x.sagging(), -88);
        x.raze(1);
        Check.is("without houses", x.sagging(), 0);
        Check.is("in no city", new LeanCity().sagging(), 0);
    }

    private static void rings() {
        // 0 on 1, 1 on 2, 2 on 3, 3 on 1; 4 alone.
        LeanCity x = Check.city("house weight 5 firm 99;house weight 5 firm 99;house weight 5 firm 99;house weight 5 firm 99;"
                + "house weight 5 firm 99;lean 0 1 part 1;lean 1 2 part 1;lean 2 3 part 1;lean 3 1 part 1");
        int[] ring = {0, 1, 1, 1, 0};
        int[] held = {14, 14, 14, 14, 0};
        for (int h = 0; h < 5; h++) {
            Check.is("ring(" + h + ")", x.ring(h) ? 1 : 0, ring[h]);
            Check.is("held(" + h + ")", x.held(h), held[h]);
        }
        Check.fails("ring(5)", IndexOutOfBoundsException.class, () -> x.ring(5));
        Check.fails("ring(-1)", IndexOutOfBoundsException.class, () -> x.ring(-1));
        Check.fails("held(5)", IndexOutOfBoundsException.class, () -> x.held(5));
        x.raze(3);
        Check.is("no ring any more", x.ring(1), false);
        Check.is("ring of one FALLEN", x.ring(3), false);
        Check.is("held(0)", x.held(0), 6);
        Check.is("held of one FALLEN", x.held(3), 0);
        // A long way through all, from the highest number down.
        LeanCity y = Check.city("house weight 5 firm 99;house weight 5 firm 99;house weight 5 firm 99;house weight 5 firm 99;"
                + "house weight 5 firm 99;house weight 5 firm 99;house weight 5 firm 99;house weight 5 firm 99");
        for (int h = 7; h > 0; h--) {
            y.lean(h, h - 1, 1);
        }
        Check.is("held(7)", y.held(7), 127);
        Check.is("held(0)", y.held(0), 0);
        y.lean(0, 7, 1);
        Check.is("held(0) in a ring", y.held(0), 255);
    }

    private static void ends() {
        LeanCity x = Check.city("house weight 5 firm 99;house weight 5 firm 99;house weight 5 firm 99;house weight 5 firm 99;"
                + "lean 0 1 part 1;lean 3 0 part 1");
        Check.is("ends", x.ends(), 6);
        Check.is("straight", x.straight(), 4);
        x.raze(1);
        Check.is("ends", x.ends(), 5);
        x.raze(3);
        Check.is("straight", x.straight(), 5);
        Check.is("ends of none", new LeanCity().ends(), 0);
        Check.is("straight of none", new LeanCity().straight(), 0);
    }

    private static void pieces() {
        // 1 holds 0, 2 and 3 together; 3 and 4 lean on each other; 5 is alone.
        LeanCity x = Check.city("house weight 5 firm 99;house weight 5 firm 99;house weight 5 firm 99;house weight 5 firm 99;"
                + "house weight 5 firm 99;house weight 5 firm 99;lean 0 1 part 1;lean 2 1 part 1;lean 1 3 part 1;lean 3 4 part 1;lean 4 3 part 1");
        int[] apart = {0, 5, 0, 3, 0, 0};
        for (int h = 0; h < 6; h++) {
            Check.is("apart(" + h + ")", x.apart(h), apart[h]);
        }
        Check.is("pieces", x.pieces(), 2);
        x.lean(0, 2, 4);
        Check.is("apart with another way", x.apart(1), 4);
        Check.fails("apart(6)", IndexOutOfBoundsException.class, () -> x.apart(6));
        Check.fails("apart(-1)", IndexOutOfBoundsException.class, () -> x.apart(-1));
        x.raze(1);
        Check.is("apart of one FALLEN", x.apart(1), 0);
        Check.is("pieces", x.pieces(), 3);
        Check.is("pieces of none", new LeanCity().pieces(), 0);
    }

    private static void gates() {
        // Without people 0 sags by 20, 1 by 8; 2 stands.
        LeanCity x = Check.city("house weight 30 firm 10;house weight 9 firm 1;house weight 9 firm 9;person at 0 hold 25;"
                + "person at 0 hold 15;person at 1 hold 99 on 0111111;person at 2 hold 3");
        Check.is("gates", x.gates(LeanCity.NONE), 28);
        int[] where = {0, 1, -1, -1};
        for (int p = 0; p < 4; p++) {
            Check.is("gates(" + p + ")", x.gates(p), where[p]);
        }
        Check.fails("gates(4)", IndexOutOfBoundsException.class, () -> x.gates(4));
        Check.fails("gates(-2)", IndexOutOfBoundsException.class, () -> x.gates(-2));
        // 0 is held by 40 just now, but that does not matter to GATES; 2 is there in EVENING 1.
        Check.more(x, "evening 1");
        Check.is("all are there", x.gates(-1), 28);
        Check.is("0 is not needed", x.gates(0), LeanCity.NONE);
        Check.is("1 at 1", x.gates(1), 1);
        Check.is("2 at 0", x.gates(2), 0);
        Check.is("nobody was put", x.person(1, 0), 0);
        x.raze(0);
        Check.is("one AT none can be put", x.gates(-1), 8);
        Check.is("first way", x.gates(0), LeanCity.NONE);
        Check.is("the last that can", x.gates(2), 1);
        Check.is("gates of none", new LeanCity().gates(-1), 0);
        Check.fails("gates(0) of none", IndexOutOfBoundsException.class, () -> new LeanCity().gates(0));
        // Without any people held holds for none.
        LeanCity y = Check.city("house weight 30 firm 10;person at 0 hold 25");
        Check.law(y, "firm 15 if held;soft 4 if not held");
        Check.is("sags 24 without people", y.gates(-1), 24);
    }

    private static void gatesFirstWay() {
        LeanCity x = Check.city("house weight 10 firm 0;house weight 10 firm 0;house weight 9 firm 9;person at 0 hold 10;"
                + "person at 0 hold 10;person at 0 hold 10");
        Check.is("gates", x.gates(-1), 20);
        Check.is("none is the least", x.gates(0), LeanCity.NONE);
        Check.is("then the houses", x.gates(1), 0);
        Check.is("the other one", x.gates(2), 1);
        LeanCity last = Check.city("house weight 10 firm 0;person at 0 hold 0;person at 0 hold 1;person at 0 hold 2;person at 0 hold 3;"
                + "person at 0 hold 4;person at 0 hold 5");
        Check.is("the last one", last.gates(-1), 5);
        Check.is("where it is", last.gates(5), 0);
        // More people than houses that sag, and one of little hold.
        LeanCity y = Check.city("house weight 10 firm 0;house weight 50 firm 0;house weight 30 firm 0;person at 0 hold 5;"
                + "person at 0 hold 40;person at 0 hold 60;person at 0 hold 30;person at 0 hold 10;person at 0 hold 1");
        Check.is("gates", y.gates(-1), 90);
        int[] where = {-1, -1, 1, 2, 0, -1};
        for (int p = 0; p < 6; p++) {
            Check.is("gates(" + p + ")", y.gates(p), where[p]);
        }
    }

    private static void swaps() {
        LeanCity x = Check.city("house weight 30 firm 10;house weight 9 firm 1;person at 0 hold 8;person at 1 hold 20");
        Check.is("swap", x.swap(0, 1), true);
        Check.is("swap back", x.swap(1, 0), true);
        Check.is("nobody moved", x.person(0, 0), 0);
        x.move(0, 1);
        x.move(1, 0);
        Check.is("not fewer", x.swap(0, 1), false);
        Check.fails("swap(0, 2)", IndexOutOfBoundsException.class, () -> x.swap(0, 2));
        Check.fails("swap(2, 0)", IndexOutOfBoundsException.class, () -> x.swap(2, 0));
        Check.fails("swap(2, 2)", IndexOutOfBoundsException.class, () -> x.swap(2, 2));
        Check.fails("swap(1, 1)", IllegalArgumentException.class, () -> x.swap(1, 1));
        // Where one AT none is, the other one goes.
        LeanCity y = Check.city("house weight 30 firm 10;house weight 9 firm 1;person at 0 hold 8;person at 1 hold 20");
        y.raze(1);
        Check.is("swap with one AT none", y.swap(0, 1), true);
        Check.is("swap with one AT none", y.swap(1, 0), true);
        // As many, but others: that is not fewer.
        LeanCity z = Check.city("house weight 9 firm 0;house weight 9 firm 0;person at 0 hold 9;person at 1 hold 1");
        Check.is("others", z.swap(0, 1), false);
        // Only in EVENING.
        x.come(0, 0, false);
        Check.is("0 is not there", x.swap(0, 1), false);
    }

    private static void rests() {
        LeanCity x = Check.city("house weight 9 firm 9;person at 0 hold 9;person at 0 hold 9 on 0000000;person at 0 hold 10;"
                + "person at 0 hold 60;person at 0 hold 59;person at 0 hold 99");
        Check.is("both little", x.rests(0, 1), 0b1001);
        // 10 has -3 either way, if the other one goes home.
        Check.is("10 and 9", x.rests(2, 0), 0b1001);
        Check.is("9 and 10", x.rests(0, 2), 0b1001);
        // 60 leans alone for 2, but the other one would lean for 3.
        Check.is("60 and 9", x.rests(3, 0), 0b0001);
        Check.is("9 and 60", x.rests(0, 3), 0b0001);
        Check.is("60 and 99", x.rests(3, 5), 0b0001);
        Check.fails("rests(0, 6)", IndexOutOfBoundsException.class, () -> x.rests(0, 6));
        Check.fails("rests(6, 0)", IndexOutOfBoundsException.class, () -> x.rests(6, 0));
        Check.fails("rests(-1, -1)", IndexOutOfBoundsException.class, () -> x.rests(-1, -1));
        Check.fails("rests(4, 4)", IllegalArgumentException.class, () -> x.rests(4, 4));
    }

    private static void odds() {
        LeanCity x = Check.city("house weight 9 firm 9;house weight 1 firm 9;person at 0 hold 9;person at 0 hold 9;person at 1 hold 1;wander 33");
        // 6700, 4489, 3007 (of 3007.63); 2014, 1349, 903.
        Check.is("odds(0)", x.odds(0), 10000);
        Check.is("odds(1)", x.odds(1), 3007);
        Check.is("odds(2)", x.odds(2), 903);
        Check.is("odds(4)", x.odds(4), 81);
        Check.fails("odds(5)", IllegalArgumentException.class, () -> x.odds(5));
        Check.fails("odds(-1)", IllegalArgumentException.class, () -> x.odds(-1));
        x.raze(0);
        Check.is("one is AT a house", x.odds(1), 6700);
        Check.more(x, "wander 100");
        Check.is("always", x.odds(1), 0);
        Check.is("no EVENING", x.odds(0), 10000);
        Check.is("nobody", new LeanCity().odds(4), 10000);
    }

    private static void oldest() {
        LeanCity x = Check.city("house weight 9 firm 9 age 4;house weight 1 firm 9 age 6;house weight 1 firm 9 age 6");
        Check.is("oldest", x.oldest(), 1);
        x.raze(1);
        Check.is("oldest", x.oldest(), 2);
        x.raze(2);
        Check.is("oldest", x.oldest(), 0);
        x.raze(0);
        Check.is("oldest of none", x.oldest(), LeanCity.NONE);
        Check.is("age 0", Check.city("house weight 1 firm 1").oldest(), 0);
    }

    private static void there() {
        LeanCity x = Check.city("house weight 9 firm 9;house weight 1 firm 9;person at 0 hold 9 on 1000001;person at 1 hold 0;person at 0 hold 2 on 0000001");
        Check.is("there(0)", x.there(0), 3);
        Check.is("there(1)", x.there(1), 2);
        Check.is("there(6)", x.there(6), 7);
        x.raze(1);
        Check.is("not AT any", x.there(6), 5);
        Check.fails("there(7)", IndexOutOfBoundsException.class, () -> x.there(7));
        Check.fails("there(-1)", IndexOutOfBoundsException.class, () -> x.there(-1));
        Check.is("gate", x.house(0, 12), 5);
    }

    private static void twins() {
        LeanCity x = Check.city("house weight 9 firm 8 ivy 3;house weight 9 firm 8 age 3;house weight 8 firm 9;house weight 9 firm 8;"
                + "house weight 9 firm 9;house weight 8 firm 8");
        Check.is("twins", x.twins(), 3);
        x.raze(1);
        Check.is("twins", x.twins(), 1);
        Check.is("twins of none", new LeanCity().twins(), 0);
    }

    private static void leans() {
        LeanCity x = Check.city("house weight 9 firm 8;house weight 9 firm 8;house weight 8 firm 9;lean 0 1 part 9;lean 1 0 part 1;lean 1 2 part 1");
        Check.is("leans", x.leans(), 3);
        x.lean(1, 0, 0);
        Check.is("leans", x.leans(), 2);
        x.raze(1);
        Check.is("leans", x.leans(), 0);
    }
}
