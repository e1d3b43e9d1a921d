/** The edges that "Terms" and promises 1 to 6 name: the tape, texts of THE CITY and THE LAW, the first wrong byte. */
public final class EdgesOfTexts {
    private static final String ONE = "house weight 1 firm 1";
    private static final String TWO = ONE + ";" + ONE + ";";

    public static void main(String[] args) {
        tape();
        houses();
        leans();
        people();
        numbersAlone();
        figuresOfNumbers();
        wordsAndBlanks();
        manyLines();
        manyHouses();
        manyPeople();
        manyTexts();
        emptyTexts();
        whatMustCome();
        otherBytes();
        nothingStays();
        lawLines();
        lawNumbers();
        lawAtoms();
        lawDepth();
        lawMustCome();
        lawInPlace();
        lawHolds();
        lawStops();
        faults();
        Check.done();
    }

    private static int feedOne(LeanCity x, int sign) {
        return x.feed(sign, sign, sign, sign, sign);
    }

    private static void tape() {
        Check.says("2: how many it has");
        LeanCity x = new LeanCity();
        Check.is("first feed", feedOne(x, 0), 20);
        Check.is("second feed", feedOne(x, -1), 40);
        Check.says("2: 400 may be");
        x = new LeanCity();
        for (int n = 1; n < 20; n++) {
            feedOne(x, 0x20202020);
        }
        Check.is("the 20th feed", feedOne(x, 0x20202020), 400);
        Check.says("2: NONE, and none come, if it would have more than 400");
        Check.is("the 21st feed", feedOne(x, 0x3b3b3b3b), LeanCity.NONE);
        Check.is("it has no more than 400", x.end(401), false);
        Check.is("it has 400", x.end(400), true);
        Check.is("all of them blanks", x.city(), 1);
        for (int n = 1; n < 20; n++) {
            feedOne(x, 0x20202020);
        }
        feedOne(x, 0x20202020);
        x.end(381);
        Check.is("behind 381", feedOne(x, 0x3b3b3b3b), LeanCity.NONE);
        Check.is("it has 381", x.end(382), false);
        Check.is("still blanks", x.law(), 0);
        for (int n = 1; n <= 20; n++) {
            feedOne(x, 0x20202020);
        }
        x.end(380);
        Check.is("behind 380", feedOne(x, 0x3b3b3b3b), 400);
        Check.fails("the law of these", IllegalArgumentException.class, x::law);
        Check.is("they came behind 380", x.fault(), 380);
        Check.says("2: of each number the highest byte first");
        x = new LeanCity();
        x.feed(0x7765656b, 0x20313233, 0x3b70726f, 0x70203435, 0x3b202020);
        x.end(16);
        Check.is("city", x.city(), 1);
        Check.is("week 123", x.count(5), 123);
        Check.is("prop 45", x.count(7), 45);

        Check.says("3: the TAPE has its first n bytes alone: true");
        x = new LeanCity();
        Check.is("end(0) of none", x.end(0), true);
        x.feed(0x7765656b, 0x20313233, 0x20202020, 0x20202020, 0x3b3b3b3b);
        Check.is("end(20) of 20", x.end(20), true);
        Check.is("end(7) of 20", x.end(7), true);
        Check.is("the city", x.city(), 1);
        Check.is("week 12", x.count(5), 12);
        x.feed(0x7765656b, 0x20313233, 0x20202020, 0x20202020, 0x3b3b3b3b);
        Check.is("end(0) of 20", x.end(0), true);
        Check.is("feed behind it", x.feed(0x77656173, 0, 0, 0, 0), 20);
        Check.says("3: false, and nothing happens, if it has fewer, or n is below 0");
        for (int n : new int[] {21, Integer.MAX_VALUE, -1, Integer.MIN_VALUE}) {
            Check.is("end(" + n + ") of 20", x.end(n), false);
            Check.is("20 are left", x.end(21), false);
            Check.is("20 are left", x.end(20), true);
        }
        Check.is("end(1) of none", new LeanCity().end(1), false);
        Check.is("end(-1) of none", new LeanCity().end(-1), false);
    }

    private static void houses() {
        Check.says("HOUSES: WEIGHT 1 to 99");
        Check.is("1", Check.right("house weight 1 firm 5").house(0, 0), 1);
        Check.is("99", Check.right("house weight 99 firm 5").house(0, 0), 99);
        Check.cityAt("house weight ^0 firm 5");
        Check.cityAt("house weight ^100 firm 5");
        Check.says("HOUSES: FIRM 0 to 999");
        Check.is("0", Check.right("house weight 1 firm 0").house(0, 1), 0);
        Check.is("999", Check.right("house weight 1 firm 999").house(0, 1), 999);
        Check.cityAt("house weight 1 firm ^1000");
        Check.cityAt("house weight 1 firm ^-1");
        Check.says("HOUSES: IVY 0 to 9 (0 at first)");
        Check.is("0", Check.right("house weight 1 firm 1 ivy 0").house(0, 2), 0);
        Check.is("9", Check.right("house weight 1 firm 1 ivy 9").house(0, 2), 9);
        Check.is("not told", Check.right(ONE).house(0, 2), 0);
        Check.is("not told with an age", Check.right("house weight 1 firm 1 age 7").house(0, 2), 0);
        Check.cityAt("house weight 1 firm 1 ivy ^10");
        Check.says("HOUSES: AGE 0 to 99 (0 at first)");
        Check.is("0", Check.right("house weight 1 firm 1 age 0").house(0, 3), 0);
        Check.is("99", Check.right("house weight 1 firm 1 age 99").house(0, 3), 99);
        Check.is("99 behind ivy", Check.right("house weight 1 firm 1 ivy 9 age 99").house(0, 3), 99);
        Check.is("not told", Check.right(ONE).house(0, 3), 0);
        Check.is("not told with ivy", Check.right("house weight 1 firm 1 ivy 7").house(0, 3), 0);
        Check.cityAt("house weight 1 firm 1 age ^100");
        Check.cityAt("house weight 1 firm 1 ivy 2 age ^100");
        Check.says("HOUSES: FALLEN or not (not at first)");
        Check.is("first", Check.right(ONE).house(0, 4), 0);
        Check.is("all", Check.right(TWO + ONE).count(8), 7);
        Check.says("a line of a house: [ ivy N ] [ age N ] in this order, each once at most");
        Check.cityAt("house weight 1 firm 1 age 1 ^ivy 1");
        Check.cityAt("house weight 1 firm 1 ivy 1 ^ivy 1");
        Check.cityAt("house weight 1 firm 1 ivy 1 age 1 ^age 1");
        Check.cityAt("house weight 1 ^ivy 1 firm 1");
        Check.cityAt("house ^firm 1 weight 1");
    }

    private static void leans() {
        Check.says("lean: part 0 to 9");
        Check.is("0", Check.right(TWO + "lean 0 1 part 0").part(0, 1), 0);
        Check.is("9", Check.right(TWO + "lean 0 1 part 9").part(0, 1), 9);
        Check.cityAt(TWO + "lean 0 1 part ^10");
        Check.says("LEANS on each other one by a PART (0: not; at first)");
        LeanCity x = Check.right(TWO + "lean 1 0 part 3");
        Check.is("told", x.part(1, 0), 3);
        Check.is("not told", x.part(0, 1), 0);
        Check.is("one", x.leans(), 1);
        Check.more(x, "lean 1 0 part 0");
        Check.is("no more", x.leans(), 0);
        Check.says("lean: the first, a HOUSE that there is by then");
        Check.cityAt("lean ^0 0 part 1");
        Check.cityAt("lean ^0 1 part 1;" + ONE + ";" + ONE);
        Check.cityAt(TWO + "lean ^2 0 part 1");
        Check.cityAt(TWO + "lean ^2 1 part 1;" + ONE);
        Check.is("the last one", Check.right(TWO + "lean 1 0 part 2").part(1, 0), 2);
        Check.says("lean: the second, a HOUSE that there is by then");
        Check.cityAt(ONE + ";lean 0 ^1 part 1");
        Check.cityAt(ONE + ";lean 0 ^1 part 1;" + ONE);
        Check.cityAt(TWO + "lean 0 ^2 part 1");
        Check.is("the last one", Check.right(TWO + "lean 0 1 part 2").part(0, 1), 2);
        Check.says("lean: the second not the first one, else it is wrong at it");
        Check.cityAt(ONE + ";lean 0 ^0 part 1");
        Check.cityAt(TWO + "lean 1 ^1 part 1");
        Check.cityAt(TWO + "lean 1 ^001");
        Check.says("lean: HOUSES that are not FALLEN");
        x = Check.right(TWO + ONE);
        x.raze(1);
        Check.cityAt(x, "lean ^1 0 part 1");
        Check.cityAt(x, "lean 0 ^1 part 1");
        Check.cityAt(x, "lean ^1 1 part 1");
        Check.is("others", Check.more(x, "lean 0 2 part 1"), 2);
        Check.says("lean: behind one another, the latest is what is told");
        Check.is("two", Check.right(TWO + "lean 0 1 part 4;lean 0 1 part 6").part(0, 1), 6);
    }

    private static void people() {
        Check.says("PEOPLE: HOLD 0 to 99");
        Check.is("0", Check.right(ONE + ";person at 0 hold 0").person(0, 1), 0);
        Check.is("99", Check.right(ONE + ";person at 0 hold 99").person(0, 1), 99);
        Check.cityAt(ONE + ";person at 0 hold ^100");
        Check.says("PEOPLE: AT a HOUSE that there is by then");
        Check.is("0", Check.right(ONE + ";person at 0 hold 1").person(0, 0), 0);
        Check.is("1", Check.right(TWO + "person at 1 hold 1").person(0, 0), 1);
        Check.cityAt("person at ^0 hold 1");
        Check.cityAt("person at ^0 hold 1;" + ONE);
        Check.cityAt(ONE + ";person at ^1 hold 1");
        Check.cityAt(ONE + ";person at ^1 hold 1;" + ONE);
        Check.says("PEOPLE: AT a HOUSE that is not FALLEN");
        LeanCity x = Check.right(TWO + ONE);
        x.raze(2);
        Check.cityAt(x, "person at ^2 hold 1");
        Check.is("another one", Check.more(x, "person at 1 hold 1"), 2);
        Check.says("PEOPLE: EVENINGS, all at first: 127");
        Check.is("not told", Check.right(ONE + ";person at 0 hold 1").person(0, 2), 127);
        Check.says("F: seven figures 0 or 1, for EVENINGS 0 to 6");
        Check.is("none", Check.right(ONE + ";person at 0 hold 1 on 0000000").person(0, 2), 0);
        Check.is("all", Check.right(ONE + ";person at 0 hold 1 on 1111111").person(0, 2), 127);
        Check.is("EVENING 0", Check.right(ONE + ";person at 0 hold 1 on 1000000").person(0, 2), 1);
        Check.is("EVENING 6", Check.right(ONE + ";person at 0 hold 1 on 0000001").person(0, 2), 64);
        Check.is("0, 1 and 5", Check.right(ONE + ";person at 0 hold 1 on 1100010").person(0, 2), 35);
        Check.says("F: figures of another number are wrong");
        Check.cityAt(ONE + ";person at 0 hold 1 on ^111111");
        Check.cityAt(ONE + ";person at 0 hold 1 on ^11111111");
        Check.cityAt(ONE + ";person at 0 hold 1 on ^1");
        Check.cityAt(ONE + ";person at 0 hold 1 on ^1111 111");
        Check.says("F: figures others than there may be are wrong");
        Check.cityAt(ONE + ";person at 0 hold 1 on ^2111111");
        Check.cityAt(ONE + ";person at 0 hold 1 on ^1111112");
        Check.cityAt(ONE + ";person at 0 hold 1 on ^1119111");
        Check.cityAt(ONE + ";person at 0 hold 1 on 1111111^a");
    }

    private static void numbersAlone() {
        Check.says("WANDER 0 to 100 (0 at first)");
        Check.is("first", new LeanCity().count(6), 0);
        Check.is("100", Check.right("wander 100").count(6), 100);
        Check.is("0", Check.right("wander 5;wander 0").count(6), 0);
        Check.cityAt("wander ^101");
        Check.cityAt("wander ^-1");
        Check.says("PROP 1 to 99 (20 at first)");
        Check.is("first", new LeanCity().count(7), 20);
        Check.is("1", Check.right("prop 1").count(7), 1);
        Check.is("99", Check.right("prop 99").count(7), 99);
        Check.cityAt("prop ^0");
        Check.cityAt("prop ^100");
        Check.says("EVENING 0 to 6 (0 at first)");
        Check.is("first", new LeanCity().count(4), 0);
        Check.is("6", Check.right("evening 6").count(4), 6);
        Check.is("0", Check.right("evening 3;evening 0").count(4), 0);
        Check.cityAt("evening ^7");
        Check.says("week: 0 to 999 (0 at first)");
        Check.is("first", new LeanCity().count(5), 0);
        Check.is("999", Check.right("week 999").count(5), 999);
        Check.is("0", Check.right("week 3;week 0").count(5), 0);
        Check.cityAt("week ^1000");
    }

    private static void figuresOfNumbers() {
        Check.says("numbers are of 1 to 3 digits");
        Check.is("1", Check.right("week 7").count(5), 7);
        Check.is("2", Check.right("week 07").count(5), 7);
        Check.is("3", Check.right("week 007").count(5), 7);
        Check.is("3 of a house", Check.right(TWO + "lean 000 001 part 005").part(0, 1), 5);
        Check.says("a number of more digits is wrong at its begin, also if it tells none too great");
        Check.cityAt("week ^0007");
        Check.cityAt("week ^0000000000000000000000000");
        Check.cityAt("week ^99999999999999999999");
        Check.cityAt("week ^4294967297");
        Check.cityAt("house weight ^0001 firm 1");
        Check.cityAt("house weight 1 firm ^0001");
        Check.cityAt("house weight 1 firm 1 ivy ^0001");
        Check.cityAt("house weight 1 firm 1 age ^0001");
        Check.cityAt(TWO + "lean ^0000 1 part 1");
        Check.cityAt(TWO + "lean 0 ^0001 part 1");
        Check.cityAt(TWO + "lean 0 1 part ^0001");
        Check.cityAt(ONE + ";person at ^0000 hold 1");
        Check.cityAt(ONE + ";person at 0 hold ^0001");
        Check.cityAt("wander ^0001");
        Check.cityAt("prop ^0001");
        Check.cityAt("evening ^0001");
    }

    private static void wordsAndBlanks() {
        Check.says("words are as long as a to z go on");
        Check.cityAt("^weeks 1");
        Check.cityAt("^wee 1");
        Check.cityAt("^w");
        Check.cityAt("^houseweight 1 firm 1");
        Check.cityAt("house ^weightfirm");
        Check.cityAt("house ^weigh 1 firm 1");
        Check.cityAt("house weight 1 ^firmly 1");
        Check.cityAt(ONE + " ^ivyage 1");
        Check.cityAt(ONE + ";person ^a 0 hold 1");
        Check.cityAt(ONE + ";person ^ato 0 hold 1");
        Check.cityAt(ONE + ";person at 0 hold 1 ^one 1111111");
        Check.is("a word ends at a figure", Check.right("week9").count(5), 9);
        Check.says("between all there may be blanks, also ahead and behind");
        LeanCity x = Check.right("  house  weight  2  firm  3  ivy  4  age  5  ;  house  weight  6  firm  7  ;  lean  0  1  part  8  ;"
                + "  person  at  1  hold  9  on  1010101  ;  wander  10  ;  prop  11  ;  evening  1  ;  week  13  ");
        Check.is("age", x.house(0, 3), 5);
        Check.is("part", x.part(0, 1), 8);
        Check.is("evenings", x.person(0, 2), 85);
        Check.is("week", x.count(5), 13);
        Check.says("there need not be any, but where two words or two numbers would be one");
        x = Check.right("house weight2firm3ivy4age5;house weight6firm7;lean0 1part8;person at1hold9on1010101;wander10;prop11;evening1;week13");
        Check.is("age", x.house(0, 3), 5);
        Check.is("part", x.part(0, 1), 8);
        Check.is("evenings", x.person(0, 2), 85);
        Check.is("week", x.count(5), 13);
        Check.cityAt(TWO + "lean 01 ^part 1");
        Check.says("a blank is 32");
        for (char c : new char[] {0, 9, 10, 13, 31, 160}) {
            Check.cityAt("week^" + c + "1");
            Check.cityAt("^" + c + "week 1");
            Check.cityAt("week 1^" + c);
        }
    }

    private static String lines(int n, String line) {
        StringBuilder text = new StringBuilder(line);
        for (int i = 1; i < n; i++) {
            text.append(';').append(line);
        }
        return text.toString();
    }

    private static void manyLines() {
        Check.says("a text of THE CITY has at most 14 LINES");
        Check.is("14", Check.right(lines(13, "week 1") + ";week 2").count(5), 2);
        Check.is("1", Check.right("week 3").count(5), 3);
        Check.says("of a LINE too many the first word is wrong");
        Check.cityAt(lines(14, "week 1") + ";^week 2");
        Check.cityAt(lines(14, "week 1") + " ;  ^week 2000");
        Check.cityAt(lines(14, "week 1") + ";^house");
        Check.cityAt(lines(14, "week 1") + ";" + "^week 1;week 1;;");
        Check.says("what is wrong in the 14th LINE is wrong there");
        Check.cityAt(lines(13, "week 1") + ";week ^1000;week 1");
        Check.cityAt(lines(14, "week 1") + "^,week 1");
        Check.cityAt(lines(14, "week 1") + ";^");
    }

    private static void manyHouses() {
        Check.says("HOUSES (at most 8, numbered from 0 on)");
        LeanCity x = Check.right(lines(8, ONE) + ";lean 7 0 part 2;person at 7 hold 1");
        Check.is("8", x.count(0), 8);
        Check.is("part", x.part(7, 0), 2);
        Check.is("at", x.person(0, 0), 7);
        Check.says("of a HOUSE too many the first word is wrong");
        Check.cityAt(lines(8, ONE) + ";^" + ONE);
        Check.cityAt(lines(8, ONE) + "; ^house");
        Check.cityAt(x, "^" + ONE);
        Check.cityAt(x, "week 1;^house weight 0");
        Check.says("a text may bring it up to 8");
        LeanCity y = Check.right(lines(5, ONE));
        Check.cityAt(y, ONE + ";" + ONE + ";" + ONE + ";^" + ONE);
        Check.is("none stayed", y.count(0), 5);
        Check.is("three more", Check.more(y, lines(3, ONE)), 2);
        Check.is("8", y.count(0), 8);
        Check.says("HOUSES (at most 8): FALLEN ones, too");
        y.raze(3);
        y.raze(7);
        Check.cityAt(y, "^" + ONE);
        Check.is("8", y.count(0), 8);
    }

    private static void manyPeople() {
        Check.says("PEOPLE (at most 6, numbered from 0 on)");
        LeanCity x = Check.right(ONE + ";" + lines(6, "person at 0 hold 1"));
        Check.is("6", x.count(1), 6);
        Check.is("hold of the last", x.person(5, 1), 1);
        Check.says("of a person too many the first word is wrong");
        Check.cityAt(ONE + ";" + lines(6, "person at 0 hold 1") + ";^person at 0 hold 1");
        Check.cityAt(x, "^person at 0 hold 1");
        Check.cityAt(x, "week 1; ^person at 9");
        Check.says("a text may bring it up to 6");
        LeanCity y = Check.right(ONE + ";" + lines(4, "person at 0 hold 1"));
        Check.cityAt(y, lines(2, "person at 0 hold 1") + ";^person at 0 hold 1");
        Check.is("none stayed", y.count(1), 4);
        Check.is("two more", Check.more(y, lines(2, "person at 0 hold 2")), 2);
        Check.is("6", y.count(1), 6);
        Check.says("PEOPLE (at most 6): those AT none, too");
        LeanCity z = Check.right(TWO + lines(6, "person at 0 hold 1"));
        z.raze(0);
        Check.cityAt(z, "^person at 1 hold 1");
    }

    private static void manyTexts() {
        Check.says("THE CITY is told in at most 12 texts");
        LeanCity x = new LeanCity();
        for (int n = 1; n <= 12; n++) {
            Check.is("text " + n, Check.more(x, "week " + n), n);
        }
        Check.says("4: UnsupportedOperationException: there are 12");
        Check.tape(x, "week 50");
        Check.fails("the 13th", UnsupportedOperationException.class, x::city);
        Check.is("texts", x.count(2), 12);
        Check.is("week", x.count(5), 12);
        Check.says("the TAPE is used up by a text that is refused");
        Check.is("feed", x.feed(0, 0, 0, 0, 0), 20);
        Check.says("fault() is that of the text that is refused");
        Check.cityAt(x, "week ^1000");
        Check.tape(x, "week 50");
        Check.fails("the 13th", UnsupportedOperationException.class, x::city);
        Check.is("fault", x.fault(), LeanCity.NONE);
        Check.says("4: of both exceptions IllegalArgumentException is told first");
        Check.cityAt(x, "^weeks 1");
        Check.says("4: an empty text counts, too");
        Check.tape(x, "");
        Check.fails("an empty 13th", UnsupportedOperationException.class, x::city);
        Check.says("4: a text that is wrong counts for none");
        LeanCity y = new LeanCity();
        Check.cityAt(y, "week^");
        Check.is("texts", y.count(2), 0);
        Check.is("the first", Check.more(y, "week 1"), 1);
        Check.says("THE LAW may be told more often");
        for (int n = 0; n < 14; n++) {
            Check.rightLaw(y, "grow " + n, 1);
        }
        Check.is("texts of THE CITY", y.count(2), 1);
    }

    private static void emptyTexts() {
        Check.says("a text that is empty, or blanks alone, has no LINE");
        LeanCity x = new LeanCity();
        Check.is("empty", Check.more(x, ""), 1);
        Check.is("its fault", x.fault(), LeanCity.NONE);
        Check.is("a blank", Check.more(x, " "), 2);
        Check.is("its fault", x.fault(), LeanCity.NONE);
        Check.is("400 blanks", Check.more(x, " ".repeat(400)), 3);
        Check.is("no house", x.count(0), 0);
        Check.rightLaw(x, "", 0);
        Check.is("lines", x.count(3), 0);
        Check.rightLaw(x, "   ", 0);
        Check.rightLaw(x, " ".repeat(400), 0);
        Check.says("but beside a ; a LINE must stand");
        Check.cityAt("^;");
        Check.cityAt("  ^;  ");
        Check.cityAt("week 1;^");
        Check.cityAt("week 1;  ^");
        Check.cityAt("week 1;^;week 2");
        Check.cityAt("^;week 1");
        Check.lawAt("^;");
        Check.lawAt("grow 1;^");
        Check.lawAt("grow 1; ^; grow 1");
    }

    private static void whatMustCome() {
        Check.says("the first wrong byte is the text's length, if more must come");
        for (String all : new String[] {"house weight 12 firm 3", TWO + "lean 0 1 part 9", ONE + ";person at 0 hold 34",
            "wander 100", "prop 20", "evening 6", "week 999"}) {
            String text = "";
            for (String thing : all.substring(all.lastIndexOf(';') + 1).split(" ")) {
                if (!text.isEmpty()) {
                    Check.cityAt(all.substring(0, all.lastIndexOf(';') + 1) + text + "^");
                    Check.cityAt(all.substring(0, all.lastIndexOf(';') + 1) + text + "   ^");
                }
                text += text.isEmpty() ? thing : " " + thing;
            }
        }
        Check.cityAt("house weight 1 firm 1 ivy^");
        Check.cityAt("house weight 1 firm 1 ivy 1 age ^");
        Check.cityAt(ONE + ";person at 0 hold 1 on^");
        Check.says("else it is the begin of the first thing that cannot stand there: a word");
        Check.cityAt("^firm 1");
        Check.cityAt("week ^week");
        Check.cityAt("house weight 1 ^weight");
        Check.cityAt(TWO + "lean 0 1 ^on 1");
        Check.cityAt(TWO + "lean ^part 1");
        Check.cityAt("week 1 ^week 1");
        Check.cityAt(ONE + "  ^person at 0 hold 1");
        Check.cityAt(ONE + ";person at 0 ^on 1111111");
        Check.says("a number");
        Check.cityAt("^1");
        Check.cityAt("house ^1");
        Check.cityAt("week 1 ^2");
        Check.cityAt(TWO + "lean 0 1 ^2");
        Check.cityAt(ONE + ";person ^0");
        Check.cityAt(ONE + ";person at 0 hold 1 ^1111111");
        Check.says("a sign");
        Check.cityAt("week ^;");
        Check.cityAt("week 1 ^.");
        Check.cityAt("week ^+1");
        Check.cityAt("house^:weight 1");
        Check.cityAt("week 1^/");
        Check.cityAt(ONE + ";lean 0^,0");
        Check.says("a number that tells none that can be");
        Check.cityAt("evening ^9");
        Check.cityAt(lines(8, ONE) + ";person at ^8 hold 1");
        Check.cityAt(lines(8, ONE) + ";lean 0 ^8 part 1");
        Check.cityAt(TWO + "lean ^999 1 part 1");
    }

    private static void otherBytes() {
        Check.says("a to z, and 0 to 9: the bytes beside these are signs that cannot stand there");
        for (char c : new char[] {'`', '{', '@', '[', 'A', 'Z', '/', ':', 0, 127, 128, 233, 255}) {
            Check.cityAt("^" + c + "week 1");
            Check.cityAt("week^" + c + " 1");
            Check.cityAt("week 1^" + c);
            Check.lawAt("grow 1 if held^" + c);
        }
        Check.says("each byte from 0 to 255 behind a text that could end there");
        for (char c = 0; c < 256; c++) {
            boolean figure = c >= '0' && c <= '9';
            if (figure || c == ' ') {
                Check.is("week", Check.right("week 1" + c).count(5), figure ? c - '0' + 10 : 1);
                Check.rightLaw(new LeanCity(), "grow 1" + c, 1);
            } else {
                Check.wrongCity("week 1" + c, c == ';' ? 7 : 6);
                Check.wrongLaw("grow 1" + c, c == ';' ? 7 : 6);
            }
        }
        Check.says("and in a text alone");
        for (char c = 0; c < 256; c++) {
            if (c != ' ') {
                Check.wrongCity("" + c, 0);
                Check.wrongLaw("  " + c, 2);
            }
        }
        Check.is("z and 9 are none of them", Check.right("prop 90;week 9").count(7), 90);
        Check.cityAt("^Week 1");
        Check.cityAt("week 1^W");
    }

    private static void nothingStays() {
        Check.says("of a wrong text nothing stays");
        String text = TWO + "lean 0 1 part 3;person at 0 hold 2 on 1100000;wander 1;prop 2;evening 3;week 4";
        String more = ONE + ";lean 1 0 part 3;person at 1 hold 2;wander 7;prop 7;evening 6;week 7;lean 0 1 part 0;lean 0 ^0 part 1";
        LeanCity x = Check.right(text);
        LeanCity y = Check.right(text);
        Check.cityAt(y, more);
        int fault = y.fault();
        Check.is("the fault alone is another one", fault, more.indexOf('^'));
        Check.cityAt(x, " ".repeat(fault) + "^;");
        Check.is("all", State.deep(y), State.deep(x));
        Check.says("of a wrong THE LAW nothing stays");
        x = Check.right(text);
        y = Check.right(text);
        Check.rightLaw(x, "firm 3 if held;grow 1", 2);
        Check.rightLaw(y, "firm 3 if held;grow 1", 2);
        Check.lawStays(y, "firm 9;soft 8;grow 7;grow 6 ^or held");
        Check.lawStays(x, "                            ^;");
        Check.is("all", State.deep(y), State.deep(x));
    }

    private static void lawLines() {
        Check.says("THE LAW has at most 12 LINES");
        LeanCity x = Check.right(ONE);
        Check.rightLaw(x, lines(11, "grow 1") + ";grow 50", 12);
        Check.is("all 12 count", x.house(0, 9), 61);
        Check.rightLaw(x, "grow 1", 1);
        Check.is("one", x.house(0, 9), 1);
        Check.says("of a LINE too many the first word is wrong");
        Check.lawAt(lines(12, "grow 1") + ";^grow 1");
        Check.lawAt(lines(12, "grow 1") + " ; ^soft 100");
        Check.lawAt(lines(12, "grow 1 if held") + ";^grow");
        Check.says("what is wrong in the 12th LINE is wrong there");
        Check.lawAt(lines(11, "grow 1") + ";grow ^100;grow 1");
        Check.lawAt(lines(12, "grow 1") + "^,");
        Check.lawAt(lines(12, "grow 1") + ";^");
        Check.says("a word that is none is wrong");
        Check.lawAt("^grows 1");
        Check.lawAt("^gro 1");
        Check.lawAt("^1");
        Check.lawAt("^1 firm");
        Check.lawAt("grow 1;^2");
        Check.lawAt("^firmsoft 1");
        Check.lawAt("^house weight 1 firm 1");
        Check.lawAt("grow 1 ^when held");
        Check.lawAt("grow 1 ^iff held");
        Check.lawAt("grow 1 if ^helds");
        Check.lawAt("grow 1 if ^lean");
        Check.lawAt("grow 1 if ^notheld");
        Check.lawAt("grow 1 if held ^orheld");
        Check.lawAt("grow 1 if ^firm > 2");
        Check.lawAt("grow 1 if ^week > 2");
        Check.lawAt("grow 1 ^firm 1");
        Check.cityAt("^grow 1");
    }

    private static void lawNumbers() {
        Check.says("THE LAW: N 0 to 99");
        LeanCity x = Check.right("house weight 1 firm 500");
        for (int n : new int[] {0, 99}) {
            Check.rightLaw(x, "firm " + n, 1);
            Check.is("firm", x.house(0, 7), 500 + n);
            Check.rightLaw(x, "soft " + n, 1);
            Check.is("soft", x.house(0, 7), 500 - n);
            Check.rightLaw(x, "grow " + n, 1);
            Check.is("grow", x.house(0, 9), n);
        }
        Check.rightLaw(x, "grow 099", 1);
        for (String word : new String[] {"firm", "soft", "grow"}) {
            Check.lawAt(word + " ^100");
            Check.lawAt(word + " ^0099");
            Check.lawAt(word + " ^-1");
            Check.lawAt(word + " ^if held");
        }
        Check.says("THE LAW: all numbers are of 1 to 3 digits");
        Check.rightLaw(x, "grow 5 if weight + 998 < 999;grow 7 if weight + 998 < 1 + 999", 2);
        Check.is("999 is 999", x.house(0, 9), 7);
        Check.rightLaw(x, "grow 5 if 000 < weight;grow 7 if weight > 000;grow 9 if weight > 001", 3);
        Check.is("0 to 999", x.house(0, 9), 12);
        Check.lawAt("grow 1 if ^1000 > weight");
        Check.lawAt("grow 1 if ^0000 < weight");
        Check.lawAt("grow 1 if weight < ^1000");
        Check.lawAt("grow 1 if weight + ^1000 > 3");
        Check.lawAt("grow 1 if 3 < weight + ^0001");
    }

    private static void lawAtoms() {
        Check.says("THE LAW: what cannot stand in C");
        Check.lawAt("grow 1 if ^)");
        Check.lawAt("grow 1 if (^)");
        Check.lawAt("grow 1 if held ^)");
        Check.lawAt("grow 1 if (held) ^)");
        Check.lawAt("grow 1 if (held^;grow 1");
        Check.lawAt("grow 1 if ^and held");
        Check.lawAt("grow 1 if ^or held");
        Check.lawAt("grow 1 if held and ^and held");
        Check.lawAt("grow 1 if held or ^and held");
        Check.lawAt("grow 1 if held ^not held");
        Check.lawAt("grow 1 if held ^held");
        Check.lawAt("grow 1 if held ^> 1");
        Check.lawAt("grow 1 if held ^+ 1");
        Check.lawAt("grow 1 if 1 < ^held");
        Check.lawAt("grow 1 if ^< 1");
        Check.lawAt("grow 1 if ^+ 1 < 2");
        Check.lawAt("grow 1 if 1 < ^< 2");
        Check.lawAt("grow 1 if 1 < 2 ^> 3");
        Check.lawAt("grow 1 if 1 ^= 1");
        Check.lawAt("grow 1 if (1 < 2^");
        Check.lawAt("grow 1 if (1 ^) < 2");
        Check.lawAt("grow 1 if 1 ^and 2 < 3");
        Check.lawAt("grow 1 if 1 + ^( 2 ) < 3");
        Check.lawAt("grow 1 if 1 ^2 < 3");
        Check.lawAt("grow 1 if 1 < 2 ^3");
        Check.lawAt("grow 1 if not ^; grow 1");
        Check.lawAt("grow 1 if 1 ^- 1 < 1");
        Check.says("THE LAW: what can, without a blank where none is needed");
        LeanCity x = Check.right("house weight 5 firm 1");
        Check.rightLaw(x, "grow1if(1<weight)and not(house>0or held)or leaning;grow2if weight+1+1>6;grow4if 6<weight+1", 3);
        Check.is("1 and 2", x.house(0, 9), 3);
        Check.rightLaw(x, "  grow  1  if  (  1  <  weight  )  and  not  (  house  >  0  or  held  )  ;  grow  2  ", 2);
        Check.is("1 and 2", x.house(0, 9), 3);
        Check.says("THE LAW: SUMS and choices as long as the tape");
        Check.rightLaw(x, "grow 1 if weight" + "+0".repeat(190) + ">4", 1);
        Check.is("it holds", x.house(0, 9), 1);
        Check.rightLaw(x, "grow 1 if held" + " or held".repeat(47) + " or 1<2", 1);
        Check.is("it holds", x.house(0, 9), 1);
        Check.rightLaw(x, "grow 1 if 1<2" + " and 1<2".repeat(47) + " and held", 1);
        Check.is("it does not", x.house(0, 9), 0);
        Check.says("THE LAW: and goes ahead of or, not ahead of and");
        Check.rightLaw(x, "grow 1 if 1 < 2 or held and held;grow 2 if held and held or 1 < 2;grow 4 if not held and 2 < 1;"
                + "grow 8 if not held or 1 < 2 and held", 4);
        Check.is("1, 2 and 8", x.house(0, 9), 11);
    }

    private static void lawDepth() {
        Check.says("THE LAW: ( and not within one another at most 6 deep");
        LeanCity x = Check.right(ONE);
        Check.rightLaw(x, "grow 1 if ((((((held))))));grow 2 if not not not not not not held;grow 4 if not(not(not(held)));"
                + "grow 8 if (not(not(not held)))", 4);
        Check.is("not held, thrice and thrice", x.house(0, 9), 4 + 8);
        Check.says("the ( or not that is a 7th one deep is wrong");
        Check.lawAt("grow 1 if ((((((^(held)))))))");
        Check.lawAt("grow 1 if not not not not not not ^not held");
        Check.lawAt("grow 1 if ((((((^not held))))))");
        Check.lawAt("grow 1 if not not not not not not ^(held)");
        Check.lawAt("grow 1 if not(not(not(^not held)))");
        Check.lawAt("grow 1 if not(not(not(^(held))))");
        Check.lawAt("grow 1 if (not(not(not^(held))))");
        Check.lawAt("grow 1 if ((((((^(((");
        Check.says("6 deep may be again behind what is closed, and on each side of and, or");
        Check.rightLaw(x, "grow 1 if ((((((held)))))) or ((((((1<2))))))", 1);
        Check.is("it holds", x.house(0, 9), 1);
        Check.rightLaw(x, "grow 1 if not not not not not not 1<2 and not not not not not not 1<2", 1);
        Check.is("it holds", x.house(0, 9), 1);
        Check.rightLaw(x, "grow 1 if (((((held or (held)) and (not held)) or not held) and (held or (1<2)))) and (not not not not not 2<1)", 1);
        Check.is("it holds", x.house(0, 9), 1);
        Check.says("but what is open yet counts on");
        Check.lawAt("grow 1 if (((((held) or (held and (^(held");
        Check.lawAt("grow 1 if (((((held and (^(held");
        Check.lawAt("grow 1 if (((((held or not held and not ^not held");
        Check.lawAt("grow 1 if ((((((held) and (^(held");
        Check.says("6 deep with all sides waiting");
        Check.rightLaw(x, "grow 1 if held or 1<2 and(held or 1<2 and(held or 1<2 and(held or 1<2 and(held or 1<2 and(held or 1<2 and("
                + "held or 1<2 and 1+house+1<weight+1+1))))))", 1);
        Check.is("it holds", x.house(0, 9), 1);
    }

    private static void lawMustCome() {
        Check.says("THE LAW: the text's length, if more must come");
        String[] texts = {"grow", "grow 1 if", "grow 1 if not", "grow 1 if (", "grow 1 if (held", "grow 1 if (not held", "grow 1 if held and",
            "grow 1 if held or", "grow 1 if 1", "grow 1 if weight", "grow 1 if 1 +", "grow 1 if 1 + 2", "grow 1 if 1 <", "grow 1 if 1 >",
            "grow 1 if 1 < 2 +", "grow 1 if (1 < 2", "grow 1 if ((held)", "grow 1;"};
        for (String text : texts) {
            Check.lawAt(text + "^");
            Check.lawAt(text + "  ^");
        }
    }

    private static void lawInPlace() {
        Check.says("THE LAW: a text in place of the one before");
        LeanCity x = Check.right("house weight 1 firm 50");
        Check.rightLaw(x, "firm 1;grow 2;soft 4", 3);
        Check.is("lines", x.count(3), 3);
        Check.rightLaw(x, "grow 5", 1);
        Check.is("lines", x.count(3), 1);
        Check.is("stands", x.house(0, 7), 50);
        Check.is("grows", x.house(0, 9), 5);
        Check.says("THE LAW: also one of no LINE");
        Check.rightLaw(x, "", 0);
        Check.is("lines", x.count(3), 0);
        Check.is("grows", x.house(0, 9), 0);
        Check.says("without a text GROWS is 0");
        Check.is("grows", Check.right(ONE).house(0, 9), 0);
        Check.is("lines", Check.right(ONE).count(3), LeanCity.NONE);
        Check.says("THE LAW may be ahead of all HOUSES");
        LeanCity y = new LeanCity();
        Check.rightLaw(y, "grow 3", 1);
        Check.more(y, ONE);
        Check.is("grows", y.house(0, 9), 3);
    }

    private static void lawHolds() {
        // PRESS of 1 is 5, of others 0.
        LeanCity x = Check.right("house weight 10 firm 90 ivy 2 age 3;house weight 20 firm 90;house weight 30 firm 90;lean 0 1 part 1;"
                + "person at 2 hold 0 on 0100000");
        Check.says("SUM < SUM, SUM > SUM: alike is neither");
        Check.rightLaw(x, "grow 1 if weight < 20;grow 2 if weight > 20;grow 4 if 20 < weight;grow 8 if 20 > weight", 4);
        Check.is("10", x.house(0, 9), 9);
        Check.is("20", x.house(1, 9), 0);
        Check.is("30", x.house(2, 9), 6);
        Check.says("leaning: it LEANS on some; leant: some LEAN on it");
        Check.rightLaw(x, "grow 1 if leaning;grow 2 if leant", 2);
        int[] grows = {1, 2, 0};
        for (int h = 0; h < 3; h++) {
            Check.is("grows " + h, x.house(h, 9), grows[h]);
        }
        x.lean(0, 1, 0);
        Check.is("PART 0 is no LEAN", x.house(0, 9) + x.house(1, 9), 0);
        Check.more(x, "lean 0 1 part 1");
        Check.rightLaw(x, "grow 1 if not leaning;grow 2 if not leant;grow 4 if leaning and not leant;grow 8 if leaning and leant;"
                + "grow 16 if leant and not leaning;grow 32 if leant or leaning", 6);
        int[] nots = {2 + 4 + 32, 1 + 16 + 32, 1 + 2};
        for (int h = 0; h < 3; h++) {
            Check.is("nots of " + h, x.house(h, 9), nots[h]);
        }
        Check.says("those FALLEN LEAN on none");
        LeanCity fallen = Check.right(TWO + "lean 0 1 part 1");
        Check.rightLaw(fallen, "grow 1 if leaning;grow 2 if leant", 2);
        fallen.raze(0);
        Check.is("leant no more", fallen.house(1, 9), 0);
        fallen.undo();
        fallen.raze(1);
        Check.is("leaning no more", fallen.house(0, 9), 0);
        Check.says("held: somebody is AT it in that EVENING, also by HOLD 0");
        Check.rightLaw(x, "firm 7 if held;grow 7 if held", 2);
        Check.is("not in EVENING 0", x.house(2, 9), 0);
        x.evenings(1);
        Check.is("in EVENING 1", x.house(2, 9), 7);
        Check.is("stands", x.house(2, 7), 97);
        Check.is("nobody there", x.house(0, 9), 0);
        Check.more(x, "person at 0 hold 1");
        Check.is("somebody there", x.house(0, 9), 7);
        Check.is("and there", x.house(2, 9), 7);
        Check.is("not there", x.house(1, 9), 0);
        Check.says("house, weight, ivy, age, evening, press are what they are");
        String[] law = {"house", "weight", "ivy", "age", "evening", "press"};
        // One EVENING 0 has passed: AGE is 1 more.
        int[][] due = {{0, 1, 2}, {10, 20, 30}, {2, 0, 0}, {4, 1, 1}, {4, 4, 4}, {0, 5, 0}};
        Check.more(x, "evening 4");
        for (int i = 0; i < law.length; i++) {
            for (int h = 0; h < 3; h++) {
                Check.rightLaw(x, "grow 1 if " + law[i] + "+1>" + due[i][h] + ";grow 2 if " + law[i] + ">" + due[i][h], 2);
                Check.is(law[i] + " of " + h, x.house(h, 9), 1);
            }
        }
    }

    private static void lawStops() {
        Check.says("STANDS by: 0 at least");
        LeanCity x = Check.right("house weight 50 firm 98 ivy 1");
        Check.rightLaw(x, "soft 99", 1);
        Check.is("0", x.house(0, 7), 0);
        Check.is("sags", x.house(0, 8), 50);
        Check.rightLaw(x, "soft 98", 1);
        Check.is("1", x.house(0, 7), 1);
        Check.rightLaw(x, "soft 99;soft 1", 2);
        Check.is("0, not below", x.house(0, 7), 0);
        Check.rightLaw(x, "soft 99;soft 1;firm 3", 3);
        Check.is("all together", x.house(0, 7), 2);
        Check.says("STANDS by: all firm LINES at their most");
        Check.rightLaw(x, lines(12, "firm 99"), 12);
        Check.is("stands", x.house(0, 7), 99 + 12 * 99);
        Check.says("STANDS by: HOLD of all who are AT it in that EVENING");
        LeanCity y = Check.right("house weight 50 firm 1;person at 0 hold 99;person at 0 hold 99;person at 0 hold 99;person at 0 hold 99;"
                + "person at 0 hold 99 on 0111111;person at 0 hold 98");
        Check.is("without one", y.house(0, 7), 1 + 4 * 99 + 98);
        y.evenings(1);
        Check.is("all", y.house(0, 7), 1 + 5 * 99 + 98);
    }

    private static void faults() {
        Check.says("6: NONE ahead of any text");
        Check.is("new", new LeanCity().fault(), LeanCity.NONE);
        Check.says("6: that of the latest text that was read");
        LeanCity x = new LeanCity();
        Check.cityAt(x, "week 1;week ^x");
        Check.tape(x, "gr");
        Check.fails("law", IllegalArgumentException.class, x::law);
        Check.is("of the law", x.fault(), 0);
        Check.says("6: NONE, if that one has none");
        Check.is("a city", Check.more(x, "week 1"), 1);
        Check.is("of the city", x.fault(), LeanCity.NONE);
        Check.cityAt(x, "^;");
        Check.is("a law", Check.law(x, ""), 0);
        Check.is("of the law", x.fault(), LeanCity.NONE);
        Check.says("6: no other call changes it");
        Check.cityAt(x, "week ^;");
        x.image();
        x.back();
        x.undo();
        x.end(0);
        Check.tape(x, 9, 9, 9);
        Check.fails("order", IllegalArgumentException.class, () -> x.order(0));
        Check.fails("broken", IllegalArgumentException.class, () -> { Check.tape(x, 9); x.broken(true); });
        Check.is("as it was", x.fault(), 5);
        Check.says("4, 5: the TAPE is used up by a text that is right, and by one that is wrong");
        LeanCity y = new LeanCity();
        Check.more(y, "week 1");
        Check.is("behind a city", y.feed(0, 0, 0, 0, 0), 20);
        Check.fails("city", IllegalArgumentException.class, y::city);
        Check.is("behind a wrong one", y.feed(0, 0, 0, 0, 0), 20);
        Check.fails("law", IllegalArgumentException.class, y::law);
        Check.is("behind a wrong law", y.end(1), false);
        Check.law(y, "grow 1");
        Check.is("behind a law", y.end(1), false);
    }
}
