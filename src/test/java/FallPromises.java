/** Promises 18 to 28: what falls, who holds it, props, orders, what has broken. */
public final class FallPromises {
    public static void main(String[] args) {
        falling();
        pulling();
        sparing();
        weakest();
        propping();
        ordering();
        wrongOrders();
        breaking();
        tapping();
        wrongRows();
        Check.done();
    }

    private static void falling() {
        // 1 holds 0 by half of its own weight away: it leans on 0; 2 leans on 1.
        LeanCity x = Check.city("house weight 30 firm 25;house weight 20 firm 8;house weight 8 firm 7;lean 2 1 part 1;lean 1 0 part 1;"
                + "person at 0 hold 30 on 1110111");
        // PRESS 12, 4, 0: 0 bears 42 and stands by 55, but in EVENING 3.
        Check.is("rounds(3) ahead of all", x.rounds(3), 3);
        Check.is("falls(0)", x.falls(0), 0);
        Check.is("rounds(3) behind another one", x.rounds(3), 3);
        Check.is("rounds(0)", x.rounds(0), 0);
        // 0 first; then 1 bears 24; then 2 bears 8.
        Check.is("falls(3)", x.falls(3), 7);
        Check.is("rounds(3)", x.rounds(3), 3);
        Check.is("nothing fell", x.count(8), 7);
        for (int evening : new int[] {-1, 7}) {
            Check.fails("falls(" + evening + ")", IndexOutOfBoundsException.class, () -> x.falls(evening));
            Check.fails("rounds(" + evening + ")", IndexOutOfBoundsException.class, () -> x.rounds(evening));
        }
        Check.law(x, "soft 99 if evening > 4 and house > 1");
        Check.is("stands by 0, but bears 0", x.falls(5), 0);
        Check.law(x, "soft 99 if evening > 4 and house < 1");
        Check.is("evening in the law", x.falls(5), 7);
        Check.is("just as much is no SAG", Check.city("house weight 9 firm 9").falls(0), 0);
        Check.is("falls of none", new LeanCity().falls(6), 0);
        Check.is("rounds of none", new LeanCity().rounds(6), 0);
    }

    private static void pulling() {
        LeanCity x = Check.city("house weight 30 firm 50;house weight 20 firm 19;house weight 8 firm 7;house weight 9 firm 50;"
                + "lean 1 0 part 1;lean 2 1 part 1;lean 3 0 part 1");
        Check.is("pulls(0)", x.pulls(0), 3);
        Check.is("pulls(1)", x.pulls(1), 2);
        Check.is("pulls(2)", x.pulls(2), 1);
        Check.is("pulls(3)", x.pulls(3), 1);
        Check.is("key", x.key(), 0);
        Check.fails("pulls(4)", IndexOutOfBoundsException.class, () -> x.pulls(4));
        Check.fails("pulls(-1)", IndexOutOfBoundsException.class, () -> x.pulls(-1));
        x.raze(0);
        Check.fails("pulls of one FALLEN", IllegalStateException.class, () -> x.pulls(0));
        // 1 (20 on 19) and then 2 fall anyway.
        Check.is("pulls(3) with what falls anyway", x.pulls(3), 3);
        Check.is("pulls(1)", x.pulls(1), 2);
        Check.is("key", x.key(), 3);
        Check.is("key of none", new LeanCity().key(), LeanCity.NONE);
        Check.is("least of several", Check.city("house weight 1 firm 1;house weight 1 firm 1").key(), 0);
    }

    private static void sparing() {
        LeanCity x = Check.city("house weight 30 firm 0;house weight 5 firm 9;person at 0 hold 20;person at 0 hold 10 on 1000000;"
                + "person at 0 hold 30 on 0111111;person at 1 hold 9;person at 0 hold 10 on 0000001");
        // EVENING 0: 0 and 1 hold just 30 together; in others 2 alone does.
        Check.is("spare", x.spare(), 0b11000);
        Check.is("needs of 0", x.person(0, 3), 1);
        Check.is("needs of 2", x.person(2, 3), 0);
        x.raze(0);
        Check.is("those AT none too", x.spare(), 0b11111);
        Check.is("spare of none", new LeanCity().spare(), 0);
        // By its going one falls and another one does not: still one more.
        LeanCity y = Check.city("house weight 10 firm 5;house weight 10 firm 10;person at 0 hold 5");
        Check.law(y, "soft 1 if house > 0 and evening < 1");
        Check.is("falls anyway", y.falls(0), 2);
        Check.is("not spared", y.spare(), 0);
        // A person may also make a house soft.
        Check.law(y, "soft 9 if held");
        Check.is("softens", y.falls(0), 1);
        Check.is("spared", y.spare(), 1);
    }

    private static void weakest() {
        LeanCity x = Check.city("house weight 9 firm 0;house weight 9 firm 0;house weight 9 firm 0;person at 0 hold 9 on 1110101;"
                + "person at 1 hold 9 on 1110101;person at 2 hold 9 on 0110111");
        Check.is("weakest", x.weakest(), 3);
        Check.is("weakest of none", new LeanCity().weakest(), 0);
        Check.is("least of several", Check.city("house weight 9 firm 0").weakest(), 0);
        x.come(0, 3, true);
        Check.is("weakest, least", x.weakest(), 3);
        x.come(1, 3, true);
        Check.is("weakest", x.weakest(), 5);
    }

    private static void propping() {
        LeanCity x = Check.city("house weight 30 firm 10;house weight 5 firm 9;house weight 30 firm 29;house weight 8 firm 8;"
                + "person at 3 hold 1 on 1000000");
        Check.is("props", x.props(0), 5);
        Check.more(x, "prop 19");
        Check.is("no prop is enough", x.props(0), LeanCity.NONE);
        Check.more(x, "prop 20;person at 0 hold 1 on 0010000;prop 19");
        Check.is("enough with one there", x.props(2), 5);
        Check.is("not in another one", x.props(3), LeanCity.NONE);
        Check.law(x, "soft 10 if evening > 5");
        Check.more(x, "prop 99");
        Check.is("all", x.props(6), 15);
        Check.is("props of none", new LeanCity().props(0), 0);
        Check.is("none needed", Check.city("house weight 8 firm 8").props(6), 0);
        Check.fails("props(7)", IndexOutOfBoundsException.class, () -> x.props(7));
        Check.fails("props(-1)", IndexOutOfBoundsException.class, () -> x.props(-1));
        // A prop stands behind the 0 that a house stands by at least.
        LeanCity y = Check.city("house weight 30 firm 10;prop 30");
        Check.law(y, "soft 99");
        Check.is("from 0 on", y.props(0), 1);
    }

    private static void ordering() {
        // 1 leans on 0 and falls with it; 2 stands alone; 3 is FALLEN.
        LeanCity x = Check.city("house weight 30 firm 50;house weight 20 firm 9;house weight 9 firm 9;house weight 9 firm 9;lean 1 0 part 1");
        x.raze(3);
        // 2 (0), 0 and 1 (1): 2. 0 and 1 (0), 2 (1): 1.
        Check.is("first", Check.order(x, 0, 0, 2), 2);
        Check.is("means", Check.means(x, 0, 2), 2);
        Check.is("first of another set", Check.order(x, 0, 0), 0);
        Check.is("second", Check.order(x, 1, 0, 2), 0);
        Check.is("third", Check.order(x, 2, 0, 2), LeanCity.NONE);
        Check.is("-1st", Check.order(x, -1, 0, 2), LeanCity.NONE);
        // 1, 0, 2 and 1, 2, 0 and 2, 1, 0: 1 + 2. 0, 1, 2: 1 is passed over, 2. 2, 0, 1: 1 + 1.
        Check.is("means of three", Check.means(x, 2, 1, 0), 3);
        Check.is("lesser first", Check.order(x, 0, 2, 1, 0), 1);
        Check.is("then", Check.order(x, 1, 2, 1, 0), 0);
        Check.is("last", Check.order(x, 2, 2, 1, 0), 2);
        Check.is("none told", Check.order(x, 0), LeanCity.NONE);
        Check.is("means of none", Check.means(x), 0);
        Check.is("nothing was taken away", x.count(8), 7);
        // What falls without being told counts too.
        Check.is("means of one", Check.means(x, 0), 0);
        // 2 falls by any FALL: told first, it takes no place from others.
        LeanCity y = Check.city("house weight 9 firm 9;house weight 9 firm 9;house weight 9 firm 0;house weight 9 firm 9;house weight 9 firm 9");
        Check.is("passed over", Check.means(y, 0, 1, 2, 3, 4), 1 + 2 + 3 + 4);
        Check.is("first", Check.order(y, 0, 4, 3, 2, 1, 0), 2);
        Check.is("then the least", Check.order(y, 1, 4, 3, 2, 1, 0), 0);
        // Of two that fall by any FALL one is passed over, at the place 1.
        Check.more(y, "house weight 9 firm 0;house weight 9 firm 0");
        y.raze(2);
        Check.is("passed over", Check.means(y, 0, 5, 6), 2);
        Check.is("first", Check.order(y, 0, 0, 5, 6), 5);
        Check.is("passed over in its place", Check.order(y, 1, 0, 5, 6), 6);
    }

    private static void wrongOrders() {
        LeanCity x = Check.city("house weight 1 firm 9;house weight 1 firm 9;house weight 1 firm 9;house weight 1 firm 9;"
                + "house weight 1 firm 9;house weight 1 firm 9;house weight 1 firm 9");
        x.raze(2);
        int[][] wrong = {{7}, {2}, {0, 1, 0}, {0, 1, 3, 4, 5, 6}, {255}, {0, 0}};
        for (int[] told : wrong) {
            Check.tape(x, told);
            Check.fails("order", IllegalArgumentException.class, () -> x.order(0));
            Check.is("tape used up", x.feed(0, 0, 0, 0, 0), 20);
            Check.tape(x, told);
            Check.fails("means", IllegalArgumentException.class, x::means);
            Check.is("tape used up", x.feed(0, 0, 0, 0, 0), 20);
        }
        Check.is("five", Check.means(x, 0, 1, 3, 4, 6), 10);
        Check.is("tape used up", x.feed(0, 0, 0, 0, 0), 20);
    }

    // PRESS as it is: 0, 20, 20, 20. Without 0 on 1: 0, 0, 10, 15; without 1 on 2: 0, 20, 0, 10; without 2 on 3: 0, 20, 20, 0.
    private static final String ROW = "house weight 40 firm 50;house weight 20 firm 50;house weight 20 firm 50;house weight 20 firm 50;"
            + "lean 0 1 part 2;lean 1 2 part 3;lean 2 3 part 4";

    private static void breaking() {
        LeanCity x = Check.city(ROW);
        Check.is("all fit", Check.broken(x, false), 4);
        Check.is("least of all", Check.broken(x, true), 1);
        Check.is("felt as it is", Check.broken(x, false, 1, 20, 2, 20, 3, 20), 1);
        Check.is("none is away", Check.broken(x, true, 1, 20, 2, 20, 3, 20), 64);
        Check.is("off by 1", Check.broken(x, true, 1, 19, 2, 21, 3, 19), 64);
        Check.is("off by 2", Check.broken(x, false, 1, 18), 0);
        Check.is("nothing fits", Check.broken(x, true, 1, 18), LeanCity.NONE);
        Check.is("0 on 1", Check.broken(x, true, 1, 1), 1);
        Check.is("1 on 2", Check.broken(x, true, 2, 0), 10);
        Check.is("2 on 3", Check.broken(x, true, 3, 0, 2, 20), 19);
        Check.is("1 felt", Check.broken(x, false, 1, 20), 3);
        Check.is("of three the least", Check.broken(x, true, 1, 20), 10);
        // What has one lean less gives more to others.
        LeanCity y = Check.city("house weight 40 firm 50;house weight 20 firm 50;house weight 20 firm 50;lean 0 1 part 1;lean 0 2 part 1");
        Check.is("10 each", Check.broken(y, true, 1, 10, 2, 10), 64);
        Check.is("0 on 1 away", Check.broken(y, true, 2, 20), 1);
        Check.is("0 on 2 away", Check.broken(y, true, 2, 0), 2);
        Check.is("no leans", Check.broken(Check.city("house weight 4 firm 4"), true, 0, 1), 64);
        Check.is("no city", Check.broken(new LeanCity(), false), 1);
        y.raze(2);
        Check.is("PRESS of one FALLEN is 0", Check.broken(y, true, 1, 20, 2, 1), 64);
        Check.is("a row told twice", Check.broken(y, false, 1, 20, 1, 20), 1);
        Check.is("rows that gainsay", Check.broken(y, false, 1, 20, 1, 0), 0);
    }

    private static void tapping() {
        LeanCity x = Check.city(ROW);
        // 3 parts into 20, 15, 10, 0; 2 into 20 (twice), 10, 0; 1 into 20 (three times), 0.
        Check.is("all", Check.tap(x), 3);
        Check.is("0 parts nothing", Check.tap(Check.city("house weight 40 firm 1;house weight 4 firm 1;lean 0 1 part 1")), 1);
        Check.is("only one fits", Check.tap(x, 1, 20, 2, 20, 3, 20), LeanCity.NONE);
        Check.is("nothing fits", Check.tap(x, 1, 18), LeanCity.NONE);
        Check.is("two fit", Check.tap(x, 1, 20, 2, 20), 3);
        Check.is("of several the least", Check.tap(Check.city("house weight 40 firm 50;house weight 20 firm 50;house weight 20 firm 50;"
                + "lean 0 1 part 1;lean 0 2 part 1")), 1);
        // A weight of 1 gives nothing: no house parts these.
        LeanCity y = Check.city("house weight 9 firm 9;house weight 1 firm 1;house weight 4 firm 1;lean 1 2 part 1");
        Check.is("nothing is parted", Check.tap(y), 0);
        y.raze(0);
        Check.is("the least that is not FALLEN", Check.tap(y), 1);
        Check.is("none", Check.tap(new LeanCity()), LeanCity.NONE);
    }

    private static void wrongRows() {
        LeanCity x = Check.city(ROW);
        int[][] wrong = {{0}, {4, 0}, {0, 0, 255, 0}, {0, 0, 1}, new int[42]};
        for (int[] rows : wrong) {
            Check.tape(x, rows);
            Check.fails("broken", IllegalArgumentException.class, () -> x.broken(true));
            Check.is("tape used up", x.feed(0, 0, 0, 0, 0), 20);
            Check.tape(x, rows);
            Check.fails("tap", IllegalArgumentException.class, x::tap);
            Check.is("tape used up", x.feed(0, 0, 0, 0, 0), 20);
        }
        Check.is("40 bytes", Check.broken(x, false, new int[40]), 4);
        int[] twenty = new int[40];
        twenty[38] = 1;
        twenty[39] = 9;
        Check.is("the 20th row", Check.broken(x, false, twenty), 0);
        Check.is("tape used up", x.feed(0, 0, 0, 0, 0), 20);
    }
}
