/** Promises 7 to 17 and 49 to 55: what is told of houses and people, the acts, the log, what is taken back. */
public final class ActPromises {
    // PRESS 0, 20, 20; BEARS 0, 20, 30; STANDS 10, 35, 99.
    private static final String THREE = "house weight 40 firm 10 age 9;house weight 20 firm 30 ivy 1;house weight 10 firm 99;"
            + "lean 0 1 part 1;lean 1 2 part 1;person at 1 hold 4 on 0111111;person at 0 hold 25;evening 1";

    public static void main(String[] args) {
        houses();
        parts();
        people();
        evenings();
        growing();
        wandering();
        building();
        leaning();
        weddings();
        trimming();
        moving();
        coming();
        razing();
        logging();
        undoing();
        images();
        counts();
        Check.done();
    }

    private static void houses() {
        LeanCity x = Check.city(THREE);
        Check.law(x, "grow 2 if leant;soft 3 if house > 1");
        int[][] due = {{40, 10, 0, 9, 0, 0, 0, 35, -35, 0, 0, 0, 2},
            {20, 30, 1, 0, 0, 20, 20, 35, -15, 2, 40, 4, 1},
            {10, 99, 0, 0, 0, 20, 30, 96, -66, 2, 60, 9, 0}};
        for (int h = 0; h < 3; h++) {
            for (int what = 0; what <= 12; what++) {
                Check.is("house(" + h + ", " + what + ")", x.house(h, what), due[h][what]);
            }
        }
        Check.fails("house(3, 0)", IndexOutOfBoundsException.class, () -> x.house(3, 0));
        Check.fails("house(-1, 13)", IndexOutOfBoundsException.class, () -> x.house(-1, 13));
        Check.fails("house(0, 13)", java.util.NoSuchElementException.class, () -> x.house(0, 13));
        Check.fails("house(0, -1)", java.util.NoSuchElementException.class, () -> x.house(0, -1));
        x.raze(1);
        int[] fallen = {20, 30, 1, 0, 1, 0, 0, 0, 0, 0, 0, 0, 0};
        for (int what = 0; what <= 12; what++) {
            Check.is("FALLEN house(1, " + what + ")", x.house(1, what), fallen[what]);
        }
        Check.fails("FALLEN house(1, 13)", java.util.NoSuchElementException.class, () -> x.house(1, 13));
        // Half of an odd weight, and of what it gives each share, is rounded down.
        LeanCity y = Check.city("house weight 41 firm 0 age 99;house weight 8 firm 9 ivy 9 age 4;house weight 8 firm 19;"
                + "lean 0 1 part 1;lean 0 2 part 2");
        Check.is("a third of 20", y.house(1, 5), 6);
        Check.is("two thirds of 20", y.house(2, 5), 13);
        Check.is("price, 0 at least", y.house(0, 11), 0);
        Check.is("price of ivy", y.house(1, 11), 9);
        LeanCity ring = Check.city("house weight 99 firm 0;house weight 99 firm 0;lean 0 1 part 9;lean 1 0 part 1");
        Check.is("press in a ring", ring.house(0, 5), 98);
        // A ring of six, in which the 11th, the 12th and a 13th turn would each change something.
        LeanCity six = Check.city("house weight 44 firm 9;house weight 30 firm 9;house weight 4 firm 9;house weight 83 firm 9;"
                + "house weight 90 firm 9;house weight 89 firm 9;lean 0 1 part 3;lean 1 2 part 9;lean 2 3 part 6;lean 3 4 part 5;"
                + "lean 4 5 part 5;lean 5 0 part 7");
        int[] press = {80, 62, 46, 25, 54, 71};
        for (int h = 0; h < 6; h++) {
            Check.is("12 turns, of " + h, six.house(h, 5), press[h]);
        }
        LeanCity none = Check.city("house weight 5 firm 0;house weight 5 firm 0;lean 0 1 part 1;lean 1 0 part 1");
        Check.is("share of a ring", none.house(0, 10), 50);
        Check.is("share of 1", Check.city("house weight 1 firm 1").house(0, 10), 100);
        LeanCity light = Check.city("house weight 1 firm 0;house weight 1 firm 0;lean 0 1 part 1;lean 1 0 part 1");
        Check.is("share without anything that is borne", light.house(0, 10), 0);
    }

    private static void parts() {
        LeanCity x = Check.city(THREE);
        Check.is("part(0, 1)", x.part(0, 1), 1);
        Check.is("part(1, 0)", x.part(1, 0), 0);
        Check.is("part(2, 2)", x.part(2, 2), 0);
        Check.fails("part(0, 3)", IndexOutOfBoundsException.class, () -> x.part(0, 3));
        Check.fails("part(-1, 0)", IndexOutOfBoundsException.class, () -> x.part(-1, 0));
        x.raze(1);
        Check.is("nobody LEANS on one FALLEN", x.part(0, 1), 0);
        Check.is("nor it on any", x.part(1, 2), 0);
    }

    private static void people() {
        LeanCity x = Check.city("house weight 30 firm 20;house weight 60 firm 15;lean 1 0 part 1;person at 0 hold 40;"
                + "person at 1 hold 9 on 0000001;person at 0 hold 1");
        // Of 60 and 30, house 0 stands by 61; house 1 gives 30.
        Check.is("at", x.person(1, 0), 1);
        Check.is("hold", x.person(1, 1), 9);
        Check.is("evenings", x.person(1, 2), 64);
        Check.is("needs of 0", x.person(0, 3), 3);
        Check.is("needs of 1", x.person(1, 3), 0);
        Check.is("needs of 2", x.person(2, 3), 0);
        Check.fails("person(3, 0)", IndexOutOfBoundsException.class, () -> x.person(3, 0));
        Check.fails("person(-1, 9)", IndexOutOfBoundsException.class, () -> x.person(-1, 9));
        Check.fails("person(0, 4)", java.util.NoSuchElementException.class, () -> x.person(0, 4));
        Check.fails("person(0, -1)", java.util.NoSuchElementException.class, () -> x.person(0, -1));
        x.raze(0);
        Check.is("AT none any more", x.person(0, 0), LeanCity.NONE);
        Check.is("needs of one AT none", x.person(0, 3), 0);
    }

    private static void evenings() {
        LeanCity x = Check.city("house weight 50 firm 10;house weight 20 firm 21;house weight 7 firm 7;lean 1 0 part 1;"
                + "person at 0 hold 60 on 1011111;week 4");
        for (int n : new int[] {0, -1, 71}) {
            Check.fails("evenings(" + n + ")", IllegalArgumentException.class, () -> x.evenings(n));
        }
        // In EVENING 1 nobody holds 0, and 1 falls a round later.
        Check.is("evenings(1)", x.evenings(1), 0);
        Check.is("evening", x.count(4), 1);
        Check.is("age in EVENING 0", x.house(0, 3), 1);
        Check.is("evenings(6)", x.evenings(6), 1);
        Check.is("evening", x.count(4), 0);
        Check.is("week", x.count(5), 5);
        Check.is("who FELL", x.count(8), 6);
        Check.is("age stays", x.house(1, 3), 1);
        Check.is("evenings(1)", x.evenings(1), 0);
        Check.is("age again", x.house(1, 3), 2);
        Check.is("age of one FALLEN", x.house(0, 3), 1);
        LeanCity late = Check.city("week 999;house weight 1 firm 9");
        for (int i = 0; i < 130; i++) {
            late.evenings(70);
        }
        Check.is("age, 99 at most", late.house(0, 3), 99);
        Check.is("many weeks", late.count(5), 999 + 1300);
        for (int i = 0; i < 370; i++) {
            late.evenings(70);
        }
        Check.is("weeks", late.count(5), 999 + 5000);
    }

    private static void growing() {
        LeanCity x = Check.city("house weight 5 firm 50;house weight 5 firm 50 ivy 6;lean 0 1 part 1;person at 0 hold 1 on 0101010");
        Check.law(x, "grow 2 if leant;grow 1 if held;grow 5 if evening > 5 and ivy < 3");
        x.evenings(1);
        Check.is("no ivy in EVENING 0", x.house(0, 2), 0);
        Check.is("ivy if leant", x.house(1, 2), 8);
        x.evenings(1);
        Check.is("ivy if held", x.house(0, 2), 1);
        Check.is("9 at most", x.house(1, 2), 9);
        x.evenings(5);
        Check.is("held in 3 and 5", x.house(0, 2), 3);
        x.evenings(6);
        Check.is("held in 1, 3 and 5", x.house(0, 2), 6);
        // What falls grows no more; others grow by all as it is behind the FALL.
        LeanCity y = Check.city("house weight 50 firm 1;house weight 5 firm 50;lean 0 1 part 1");
        Check.law(y, "grow 4 if leant;soft 50 if leaning and house < 1;grow 1");
        y.evenings(1);
        Check.is("still leant", y.house(1, 2), 5);
        y.lean(1, 0, 1);
        y.evenings(1);
        Check.is("0 FELL", y.count(8), 2);
        Check.is("no ivy of one FALLEN", y.house(0, 2), 1);
        Check.is("leant no more", y.house(1, 2), 6);
    }

    private static int next(int seed) {
        return 1103515245 * seed + 12345;
    }

    private static void wandering() {
        LeanCity x = Check.city("house weight 5 firm 50;house weight 5 firm 50;house weight 5 firm 50;person at 0 hold 1;"
                + "person at 1 hold 2;wander 60");
        x.raze(1);
        Check.is("seed(77)", x.seed(77), 1);
        x.evenings(1);
        // Person 1 is AT none: no DRAW is its.
        int seed = next(77);
        boolean goes = (seed >>> 16 & 0x7fff) % 100 < 60;
        int to = 0;
        if (goes) {
            seed = next(seed);
            to = (seed >>> 16 & 0x7fff) % 2 == 0 ? 0 : 2;
        }
        Check.is("where 0 is", x.person(0, 0), to);
        Check.is("where 1 is", x.person(1, 0), LeanCity.NONE);
        Check.is("seed behind", x.seed(0), seed);
        LeanCity still = Check.city("house weight 5 firm 50;house weight 5 firm 50;person at 0 hold 1;person at 1 hold 1");
        still.evenings(1);
        Check.is("a DRAW each without WANDER", still.seed(0), next(next(1)));
        Check.is("nobody wanders", still.person(0, 0), 0);
        LeanCity all = Check.city("house weight 5 firm 50;house weight 5 firm 50;person at 0 hold 1;wander 100");
        all.seed(9);
        all.evenings(1);
        int second = next(next(9));
        Check.is("always wanders", all.person(0, 0), (second >>> 16 & 0x7fff) % 2);
        Check.is("two DRAWS", all.seed(0), second);
    }

    private static void building() {
        LeanCity x = Check.city(THREE);
        Check.is("build", x.build(99, 999, 0, 9), 3);
        Check.is("weight", x.house(3, 0), 99);
        Check.is("firm", x.house(3, 1), 999);
        Check.is("ivy", x.house(3, 2), 0);
        Check.is("age", x.house(3, 3), 0);
        Check.is("part", x.part(3, 0), 9);
        Check.fails("on none", IndexOutOfBoundsException.class, () -> x.build(0, 1, 4, 0));
        Check.fails("on -1", IndexOutOfBoundsException.class, () -> x.build(1, 1, -1, 1));
        int[][] none = {{0, 1, 1}, {100, 1, 1}, {1, -1, 1}, {1, 1000, 1}, {1, 1, 0}, {1, 1, 10}};
        for (int[] n : none) {
            Check.fails("build of " + n[0] + " " + n[1] + " " + n[2], IllegalArgumentException.class, () -> x.build(n[0], n[1], 0, n[2]));
        }
        x.raze(3);
        Check.fails("on one FALLEN", IllegalStateException.class, () -> x.build(1, 1, 3, 1));
        Check.fails("on one FALLEN by no weight", IllegalArgumentException.class, () -> x.build(0, 1, 3, 1));
        Check.is("nothing was done", x.count(11), 2);
        for (int h = 4; h < 8; h++) {
            Check.is("build", x.build(1, 0, 0, 1), h);
        }
        Check.fails("a 9th one", IllegalStateException.class, () -> x.build(1, 1, 0, 1));
        Check.fails("a 9th one by no part", IllegalArgumentException.class, () -> x.build(1, 1, 0, 0));
        Check.fails("new build", IndexOutOfBoundsException.class, () -> new LeanCity().build(1, 1, 0, 1));
    }

    private static void leaning() {
        LeanCity x = Check.city(THREE);
        Check.is("lean anew", x.lean(0, 1, 9), 1);
        Check.is("lean no more", x.lean(0, 1, 0), 9);
        Check.is("lean back", x.lean(1, 0, 3), 0);
        Check.is("part", x.part(0, 1), 0);
        Check.is("part back", x.part(1, 0), 3);
        Check.fails("lean(3, 0, 99)", IndexOutOfBoundsException.class, () -> x.lean(3, 0, 99));
        Check.fails("lean(0, 3, 1)", IndexOutOfBoundsException.class, () -> x.lean(0, 3, 1));
        Check.fails("lean(0, 0, 1)", IllegalArgumentException.class, () -> x.lean(0, 0, 1));
        Check.fails("lean(0, 1, 10)", IllegalArgumentException.class, () -> x.lean(0, 1, 10));
        Check.fails("lean(0, 1, -1)", IllegalArgumentException.class, () -> x.lean(0, 1, -1));
        x.raze(2);
        Check.fails("lean(0, 2, 10)", IllegalArgumentException.class, () -> x.lean(0, 2, 10));
        Check.fails("lean(2, 2, 1)", IllegalArgumentException.class, () -> x.lean(2, 2, 1));
        Check.fails("lean(0, 2, 1)", IllegalStateException.class, () -> x.lean(0, 2, 1));
        Check.fails("lean(2, 0, 0)", IllegalStateException.class, () -> x.lean(2, 0, 0));
        Check.is("acts", x.count(11), 4);
    }

    private static void weddings() {
        LeanCity x = Check.city(THREE + ";lean 0 2 part 9;lean 2 0 part 8");
        Check.is("wed(1, 0)", x.wed(1, 0), 1);
        Check.is("the other one", x.part(0, 1), 2);
        Check.is("wed(0, 2)", x.wed(0, 2), 9);
        Check.is("the other one 9", x.part(2, 0), 9);
        Check.fails("wed(0, 3)", IndexOutOfBoundsException.class, () -> x.wed(0, 3));
        Check.fails("wed(3, 3)", IndexOutOfBoundsException.class, () -> x.wed(3, 3));
        Check.fails("wed(1, 1)", IllegalArgumentException.class, () -> x.wed(1, 1));
        x.raze(1);
        Check.fails("wed of one FALLEN with itself", IllegalArgumentException.class, () -> x.wed(1, 1));
        Check.fails("wed(1, 0)", IllegalStateException.class, () -> x.wed(1, 0));
        Check.fails("wed(0, 1)", IllegalStateException.class, () -> x.wed(0, 1));
    }

    private static void trimming() {
        LeanCity x = Check.city(THREE);
        Check.is("trim", x.trim(1), 1);
        Check.is("ivy", x.house(1, 2), 0);
        Check.is("stands", x.house(1, 7), 34);
        Check.is("trim of none", x.trim(1), 0);
        Check.is("also an act", x.count(11), 2);
        Check.fails("trim(3)", IndexOutOfBoundsException.class, () -> x.trim(3));
        x.raze(1);
        Check.fails("trim of one FALLEN", IllegalStateException.class, () -> x.trim(1));
    }

    private static void moving() {
        LeanCity x = Check.city(THREE);
        Check.is("move", x.move(0, 2), 1);
        Check.is("at", x.person(0, 0), 2);
        Check.is("move to where it is", x.move(0, 2), 2);
        Check.is("also an act", x.count(11), 2);
        Check.fails("move(2, 0)", IndexOutOfBoundsException.class, () -> x.move(2, 0));
        Check.fails("move(0, 3)", IndexOutOfBoundsException.class, () -> x.move(0, 3));
        Check.fails("move(0, -1)", IndexOutOfBoundsException.class, () -> x.move(0, -1));
        x.raze(2);
        Check.fails("move to one FALLEN", IllegalStateException.class, () -> x.move(0, 2));
        Check.is("move of one AT none", x.move(0, 1), LeanCity.NONE);
        Check.is("gate", x.house(1, 12), 1);
    }

    private static void coming() {
        LeanCity x = Check.city(THREE);
        Check.is("come", x.come(0, 0, true), true);
        Check.is("evenings", x.person(0, 2), 127);
        Check.is("come again", x.come(0, 0, true), false);
        Check.is("not any more", x.come(0, 6, false), true);
        Check.is("evenings", x.person(0, 2), 63);
        Check.is("not again", x.come(0, 6, false), false);
        Check.is("acts", x.count(11), 4);
        Check.fails("come(2, 0)", IndexOutOfBoundsException.class, () -> x.come(2, 0, true));
        Check.fails("come(0, 7)", IndexOutOfBoundsException.class, () -> x.come(0, 7, true));
        Check.fails("come(0, -1)", IndexOutOfBoundsException.class, () -> x.come(0, -1, true));
        Check.is("no act", x.count(11), 4);
    }

    private static void razing() {
        LeanCity x = Check.city(THREE);
        Check.is("raze", x.raze(2), 30);
        Check.is("HOUSES", x.count(8), 3);
        Check.is("on none now", x.ends(), 2);
        Check.is("no FALL follows", x.house(1, 8), 5);
        Check.is("raze", x.raze(0), 0);
        Check.is("AT none", x.person(1, 0), LeanCity.NONE);
        Check.fails("raze again", IllegalStateException.class, () -> x.raze(0));
        Check.fails("raze(3)", IndexOutOfBoundsException.class, () -> x.raze(3));
    }

    private static void logging() {
        LeanCity x = Check.city("house weight 50 firm 10;house weight 20 firm 19;house weight 7 firm 7;house weight 30 firm 1;"
                + "lean 1 0 part 1;week 4;evening 6");
        Check.is("empty log", x.log(0, 5), LeanCity.NONE);
        Check.is("led of none", x.led(0, false), 0);
        Check.is("led week of none", x.led(0, true), LeanCity.NONE);
        x.raze(2);
        // 0 bears 60, 3 bears 30; 1, which gave 10, bears 20 then.
        x.evenings(2);
        int[][] due = {{4, 6, 1, 2, 1, 0}, {4, 6, 3, 1, 29, 0}, {4, 6, 0, 1, 50, 0}, {4, 6, 2, 0, 0, 1}};
        for (int ago = 0; ago < 4; ago++) {
            for (int what = 0; what < 6; what++) {
                Check.is("log(" + ago + ", " + what + ")", x.log(ago, what), due[ago][what]);
            }
        }
        Check.is("log(4, 0)", x.log(4, 0), LeanCity.NONE);
        Check.is("log(-1, 0)", x.log(-1, 0), LeanCity.NONE);
        Check.is("log(MAX, 0)", x.log(Integer.MAX_VALUE, 0), LeanCity.NONE);
        Check.is("log(MIN, 0)", x.log(Integer.MIN_VALUE, 0), LeanCity.NONE);
        Check.fails("log(0, 6)", java.util.NoSuchElementException.class, () -> x.log(0, 6));
        Check.fails("log(9, -1)", java.util.NoSuchElementException.class, () -> x.log(9, -1));
        Check.is("rows", x.count(10), 4);
        Check.is("led", x.led(3, false), 1);
        Check.is("led week", x.led(3, true), 4);
        Check.fails("led(4)", IndexOutOfBoundsException.class, () -> x.led(4, true));
        Check.is("a FALL that is only thought of", x.falls(0), 0);
        x.trial(5, false);
        Check.is("no rows by it", x.count(10), 4);
    }

    private static void undoing() {
        LeanCity x = Check.city(THREE);
        Check.is("nothing to undo", x.undo(), false);
        x.seed(5);
        x.evenings(9);
        x.seed(99);
        x.raze(1);
        x.feed(1, 2, 3, 4, 5);
        Check.is("undo raze", x.undo(), true);
        Check.is("house 1", x.house(1, 4), 0);
        Check.is("part", x.part(0, 1), 1);
        Check.is("log", x.count(10), 0);
        Check.is("the tape stays", x.end(20), true);
        Check.is("undo nine EVENINGS", x.undo(), true);
        Check.is("evening", x.count(4), 1);
        Check.is("week", x.count(5), 0);
        Check.is("age", x.house(0, 3), 9);
        Check.is("seed", x.seed(5), 5);
        Check.is("no more", x.undo(), false);
        for (int i = 0; i < 15; i++) {
            x.lean(0, 2, i % 10);
        }
        Check.is("12 are remembered", x.count(11), 12);
        for (int i = 0; i < 12; i++) {
            Check.is("undo " + i, x.undo(), true);
            Check.is("part", x.part(0, 2), (13 - i) % 10);
        }
        Check.is("the 13th", x.undo(), false);
        x.trim(1);
        x.wed(0, 1);
        x.undo();
        x.move(0, 2);
        Check.is("two acts", x.count(11), 2);
        x.undo();
        Check.is("at", x.person(0, 0), 1);
        x.undo();
        Check.is("ivy", x.house(1, 2), 1);
        x.trim(1);
        Check.fails("no house", IndexOutOfBoundsException.class, () -> x.trim(9));
        Check.is("that was no act", x.count(11), 1);
        Check.more(x, "");
        Check.is("a text: none", x.undo(), false);
        x.trim(1);
        Check.law(x, "");
        Check.is("a law: none", x.count(11), 0);
    }

    private static void images() {
        LeanCity x = Check.city(THREE);
        Check.is("back to none", x.back(), false);
        Check.law(x, "grow 3 if leant");
        x.raze(2);
        x.seed(8);
        x.image();
        Check.is("acts stay", x.count(11), 1);
        Check.law(x, "grow 1;grow 2");
        Check.more(x, "house weight 9 firm 9;prop 7");
        x.seed(9);
        x.evenings(3);
        x.feed(0, 0, 0, 0, 0);
        Check.is("back", x.back(), true);
        Check.is("houses", x.count(0), 3);
        Check.is("texts", x.count(2), 1);
        Check.is("lines", x.count(3), 1);
        Check.is("evening", x.count(4), 1);
        Check.is("prop", x.count(7), 20);
        Check.is("log", x.count(10), 1);
        Check.is("acts", x.count(11), 0);
        Check.is("law", x.house(1, 9), 3);
        Check.is("seed", x.seed(1), 8);
        Check.is("the tape stays", x.feed(0, 0, 0, 0, 0), 40);
        x.raze(0);
        Check.is("back again", x.back(), true);
        Check.is("house 0", x.house(0, 4), 0);
        x.raze(0);
        x.image();
        Check.is("undo behind an image", x.undo(), true);
        Check.is("back to the new one", x.back(), true);
        Check.is("house 0 FALLEN", x.house(0, 4), 1);
    }

    private static void counts() {
        LeanCity x = Check.city(THREE + ";wander 3;prop 4;week 5");
        Check.law(x, "firm 1;soft 1");
        x.raze(0);
        x.trim(1);
        int[] due = {3, 2, 1, 2, 1, 5, 3, 4, 6, 20, 1, 2, -1};
        for (int what = 0; what < due.length; what++) {
            Check.is("count(" + what + ")", x.count(what), due[what]);
        }
        Check.is("count(-1)", x.count(-1), LeanCity.NONE);
        Check.is("count(MAX)", x.count(Integer.MAX_VALUE), LeanCity.NONE);
    }
}
