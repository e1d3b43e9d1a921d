import java.util.Map;
import java.util.TreeMap;

/** What each text, each ACT, undoing and going back change of an object of which all is told, and that they change nothing else. */
public final class OnlyWhatIsTold {
    // Of what only seldom is what it is in a new city, so that what was cleared or set again is seen.
    private static final String CITY = "house weight 40 firm 300 ivy 3 age 12;house weight 20 firm 250 age 99;house weight 60 firm 300 ivy 8 age 98;"
            + "house weight 9 firm 400 ivy 9;house weight 8 firm 77 ivy 5 age 6;lean 0 1 part 2;lean 1 0 part 9;lean 1 2 part 4;lean 4 2 part 7;"
            + "person at 0 hold 15 on 1010101;person at 3 hold 99;person at 4 hold 7 on 0110000;wander 30;prop 44";

    public static void main(String[] args) {
        texts();
        lines();
        laws();
        builds();
        leans();
        weddings();
        people();
        razes();
        evenings();
        undone();
        back();
        little();
        Check.done();
    }

    /** HOUSE 4 is FALLEN, person 2 AT none, one row in THE LOG, WEEK, EVENING and SEED are their own. */
    private static LeanCity rich() {
        LeanCity x = Check.city(CITY);
        Check.more(x, "evening 2;week 31");
        Check.law(x, "grow 1 if leant;firm 2;soft 1");
        x.raze(4);
        x.image();
        x.seed(99);
        return x;
    }

    private static Map<String, Integer> all(LeanCity x) {
        Map<String, Integer> all = new TreeMap<>();
        String[] counts = {"houses", "people", "texts", "laws", "evening", "week", "wander", "prop", "up", "", "rows", "undone"};
        for (int what = 0; what < counts.length; what++) {
            if (!counts[what].isEmpty()) {
                all.put(counts[what], x.count(what));
            }
        }
        int seed = x.seed(0);
        x.seed(seed);
        all.put("seed", seed);
        all.put("fault", x.fault());
        all.put("tape", State.tapeOf(x));
        for (int h = 0; h < x.count(0); h++) {
            String[] own = {"weight", "firm", "ivy", "age", "fallen"};
            for (int what = 0; what < own.length; what++) {
                all.put(own[what] + h, x.house(h, what));
            }
            for (int on = 0; on < x.count(0); on++) {
                if (x.part(h, on) != 0) {
                    all.put("lean" + h + on, x.part(h, on));
                }
            }
        }
        for (int p = 0; p < x.count(1); p++) {
            all.put("at" + p, x.person(p, 0));
            all.put("hold" + p, x.person(p, 1));
            all.put("days" + p, x.person(p, 2));
        }
        for (int row = 0; row < x.count(10); row++) {
            StringBuilder cells = new StringBuilder("row").append(row);
            for (int what = 0; what <= 5; what++) {
                cells.append('/').append(x.log(x.count(10) - 1 - row, what));
            }
            all.put(cells.toString(), 1);
        }
        return all;
    }

    /** What is not as it was, by names: "name:before>after", a - where there is none. */
    private static String changed(Map<String, Integer> before, LeanCity x) {
        Map<String, Integer> after = all(x);
        Map<String, Integer> names = new TreeMap<>(before);
        names.putAll(after);
        StringBuilder told = new StringBuilder();
        for (String name : names.keySet()) {
            Integer was = before.get(name);
            Integer is = after.get(name);
            if (was == null || !was.equals(is)) {
                told.append(told.length() > 0 ? " " : "").append(name).append(':').append(was == null ? "-" : was).append('>').append(is == null ? "-" : is);
            }
        }
        return told.toString();
    }

    private static void text(String sentence, String text, String due) {
        Check.says(sentence);
        LeanCity x = rich();
        Map<String, Integer> before = all(x);
        Check.more(x, text);
        Check.is("'" + text + "'", changed(before, x), due);
    }

    private static void texts() {
        text("4: a text without a LINE: how many texts there are, and no ACT can be undone", "", "texts:2>3 undone:1>0");
    }

    private static void lines() {
        text("THE CITY: a LINE of a house: one HOUSE more", "house weight 7 firm 8", "age5:->0 fallen5:->0 firm5:->8 houses:5>6 ivy5:->0 texts:2>3 undone:1>0"
                + " up:15>47 weight5:->7");
        text("THE CITY: ivy, age", "house weight 7 firm 8 ivy 9 age 10", "age5:->10 fallen5:->0 firm5:->8 houses:5>6 ivy5:->9 texts:2>3 undone:1>0"
                + " up:15>47 weight5:->7");
        text("THE CITY: lean: the PART alone", "lean 0 1 part 9", "lean01:2>9 texts:2>3 undone:1>0");
        text("THE CITY: lean: part 0: not", "lean 1 0 part 0", "lean10:9>- texts:2>3 undone:1>0");
        text("THE CITY: lean: on one more", "lean 0 3 part 5", "lean03:->5 texts:2>3 undone:1>0");
        text("THE CITY: a LINE of a person: one more", "person at 2 hold 4", "at3:->2 days3:->127 hold3:->4 people:3>4 texts:2>3 undone:1>0");
        text("THE CITY: on F", "person at 2 hold 0 on 0000010", "at3:->2 days3:->32 hold3:->0 people:3>4 texts:2>3 undone:1>0");
        text("THE CITY: wander", "wander 31", "texts:2>3 undone:1>0 wander:30>31");
        text("THE CITY: prop", "prop 45", "prop:44>45 texts:2>3 undone:1>0");
        text("THE CITY: evening", "evening 6", "evening:2>6 texts:2>3 undone:1>0");
        text("THE CITY: week", "week 0", "texts:2>3 undone:1>0 week:31>0");
        text("THE CITY: the latest LINE of several", "wander 1;prop 2;wander 3;prop 4", "prop:44>4 texts:2>3 undone:1>0 wander:30>3");
    }

    private static void laws() {
        Check.says("5: THE LAW alone, and no ACT can be undone");
        LeanCity x = rich();
        Map<String, Integer> before = all(x);
        Check.law(x, "soft 3");
        Check.is("one LINE", changed(before, x), "laws:3>1 undone:1>0");
        x = rich();
        Check.law(x, " ");
        Check.is("no LINE", changed(before, x), "laws:3>0 undone:1>0");
    }

    private static void builds() {
        Check.says("11: a HOUSE is built: one more, that LEANS on one");
        LeanCity x = rich();
        Map<String, Integer> before = all(x);
        x.build(99, 0, 2, 9);
        Check.is("build(99, 0, 2, 9)", changed(before, x), "age5:->0 fallen5:->0 firm5:->0 houses:5>6 ivy5:->0 lean52:->9 undone:1>2 up:15>47 weight5:->99");
    }

    private static void leans() {
        Check.says("12: the PART by which the first one LEANS on the other one");
        LeanCity x = rich();
        Map<String, Integer> before = all(x);
        x.lean(1, 2, 5);
        Check.is("lean(1, 2, 5)", changed(before, x), "lean12:4>5 undone:1>2");
        before = all(x);
        x.lean(1, 0, 0);
        Check.is("lean(1, 0, 0)", changed(before, x), "lean10:9>- undone:2>3");
        before = all(x);
        x.lean(3, 0, 1);
        Check.is("lean(3, 0, 1)", changed(before, x), "lean30:->1 undone:3>4");
        before = all(x);
        x.lean(3, 0, 1);
        Check.is("lean(3, 0, 1) once more", changed(before, x), "undone:4>5");
    }

    private static void weddings() {
        Check.says("13: each LEANS on the other one by 1 more, 9 at most");
        LeanCity x = rich();
        Map<String, Integer> before = all(x);
        x.wed(0, 1);
        Check.is("wed(0, 1)", changed(before, x), "lean01:2>3 undone:1>2");
        before = all(x);
        x.wed(2, 1);
        Check.is("wed(2, 1)", changed(before, x), "lean12:4>5 lean21:->1 undone:2>3");
        before = all(x);
        x.wed(3, 2);
        Check.is("wed(3, 2)", changed(before, x), "lean23:->1 lean32:->1 undone:3>4");
    }

    private static void people() {
        Check.says("14: IVY is cut");
        LeanCity x = rich();
        Map<String, Integer> before = all(x);
        x.trim(2);
        Check.is("trim(2)", changed(before, x), "ivy2:8>0 undone:1>2");
        Check.says("15: a person moves: neither HOLD nor EVENINGS");
        before = all(x);
        x.move(0, 2);
        Check.is("move(0, 2)", changed(before, x), "at0:0>2 undone:2>3");
        before = all(x);
        x.move(2, 3);
        Check.is("move(2, 3) from none", changed(before, x), "at2:-1>3 undone:3>4");
        Check.says("16: one comes to an EVENING, or not any more: to that one alone");
        before = all(x);
        x.come(0, 5, true);
        Check.is("come(0, 5, true)", changed(before, x), "days0:85>117 undone:4>5");
        before = all(x);
        x.come(1, 0, false);
        Check.is("come(1, 0, false)", changed(before, x), "days1:127>126 undone:5>6");
        before = all(x);
        x.come(1, 0, false);
        Check.is("come(1, 0, false) once more", changed(before, x), "undone:6>7");
    }

    private static void razes() {
        Check.says("17: FALLEN; LEANS and people of it alone; a row of THE LOG");
        LeanCity x = rich();
        Map<String, Integer> before = all(x);
        x.raze(1);
        Check.is("raze(1)", changed(before, x), "fallen1:0>1 lean01:2>- lean10:9>- lean12:4>- row1/31/2/1/0/0/1:->1 rows:1>2 undone:1>2 up:15>13");
        before = all(x);
        x.raze(3);
        Check.is("raze(3)", changed(before, x), "at1:3>-1 fallen3:0>1 row2/31/2/3/0/0/1:->1 rows:2>3 undone:2>3 up:13>5");
    }

    private static int drawn(int seed, int times) {
        int drawn = seed;
        for (int i = 0; i < times; i++) {
            drawn = 1103515245 * drawn + 12345;
        }
        return drawn;
    }

    private static void evenings() {
        Check.says("10: an EVENING: IVY of those that are leant on, EVENING, SEED by a DRAW of each who is AT a HOUSE");
        LeanCity x = rich();
        Check.more(x, "wander 0");
        Map<String, Integer> before = all(x);
        x.evenings(1);
        Check.is("EVENING 2", changed(before, x), "evening:2>3 ivy0:3>4 ivy1:0>1 ivy2:8>9 seed:99>" + drawn(99, 2) + " undone:0>1");
        before = all(x);
        x.evenings(4);
        Check.is("EVENINGS 3 to 6", changed(before, x), "evening:3>0 ivy0:4>8 ivy1:1>5 seed:" + drawn(99, 2) + ">" + drawn(99, 10) + " undone:1>2 week:31>32");
        before = all(x);
        x.evenings(1);
        Check.is("EVENING 0", changed(before, x), "age0:12>13 age2:98>99 age3:0>1 evening:0>1 ivy0:8>9 ivy1:5>6 seed:" + drawn(99, 10) + ">" + drawn(99, 12)
                + " undone:2>3");
        Check.says("10: what FELL in these");
        x = rich();
        Check.more(x, "house weight 30 firm 20;house weight 50 firm 22;lean 5 6 part 3;lean 3 5 part 1;person at 6 hold 3;person at 5 hold 30 on 1101111;wander 0");
        before = all(x);
        // HOUSE 6 bears 50 and, of 5, half of 30 and 4, on 22 and 1 and 3; 5 bears 4, and 30 more once it leans on none, on 20 and 1.
        x.evenings(1);
        Check.is("two rounds", changed(before, x), "at3:6>-1 at4:5>-1 evening:2>3 fallen5:0>1 fallen6:0>1 ivy0:3>4 ivy1:0>1 ivy2:8>9 lean35:1>- lean56:3>-"
                + " row1/31/2/6/1/41/0:->1 row2/31/2/5/2/13/0:->1 rows:1>3 seed:99>" + drawn(99, 2) + " undone:0>1 up:111>15");
    }

    private static void undone() {
        Check.says("52: all is as ahead of it, SEED, too");
        LeanCity x = rich();
        Map<String, Integer> before = all(x);
        x.evenings(70);
        x.seed(4);
        x.undo();
        Check.is("EVENINGS", changed(before, x), "");
        x.raze(0);
        x.undo();
        Check.is("raze(0)", changed(before, x), "");
        x.build(1, 1, 1, 1);
        x.undo();
        Check.is("build(1, 1, 1, 1)", changed(before, x), "");
        x.undo();
        Check.is("raze(4)", changed(before, x), "at2:-1>4 fallen4:1>0 lean42:->7 row0/31/2/4/0/0/1:1>- rows:1>0 seed:99>1 undone:1>0 up:15>31");
    }

    private static void back() {
        Check.says("54: of all; no ACT can be undone then");
        LeanCity x = rich();
        x.seed(1);
        Map<String, Integer> before = all(x);
        Check.more(x, "house weight 1 firm 1;lean 0 5 part 5;person at 5 hold 5;wander 5;prop 5;evening 5;week 5");
        Check.law(x, "firm 5");
        x.raze(2);
        x.trim(0);
        x.move(0, 1);
        x.come(1, 1, false);
        x.evenings(9);
        x.seed(7);
        Check.is("back", x.back(), true);
        Check.is("back", changed(before, x), "undone:1>0");
    }

    private static void little() {
        Check.says("51, 53: SEED alone; THE IMAGE alone");
        LeanCity x = rich();
        Map<String, Integer> before = all(x);
        x.seed(-5);
        Check.is("seed(-5)", changed(before, x), "seed:99>-5");
        before = all(x);
        x.image();
        Check.is("image()", changed(before, x), "");
        Check.says("2, 3: the TAPE alone");
        before = all(x);
        x.feed(1, 2, 3, 4, 5);
        Check.is("feed", changed(before, x), "tape:0>20");
        x.end(7);
        Check.is("end(7)", changed(before, x), "tape:0>7");
        Check.says("4, 5: of a text that is wrong the TAPE and fault() alone");
        before = all(x);
        Check.tape(x, "house weight 1 firm 1;wander 99;evening 1;lean 0 1 part 1;week 1000");
        Check.fails("city", IllegalArgumentException.class, x::city);
        Check.is("city", changed(before, x), "fault:-1>63 tape:7>0");
        before = all(x);
        Check.tape(x, "firm 1;soft 1;grow 1;grow 1;grow");
        Check.fails("law", IllegalArgumentException.class, x::law);
        Check.is("law", changed(before, x), "fault:63>32");
    }
}
