import java.util.ArrayDeque;
import java.util.ArrayList;
import java.util.Deque;
import java.util.List;
import java.util.regex.Matcher;
import java.util.regex.Pattern;

/** Texts of right and wrong things at random: where they are wrong, by a table of what can stand where. */
public final class FaultRuns {
    private static long state = 77;

    private static int random(int n) {
        state = state * 6364136223846793005L + 1442695040888963407L;
        return (int) ((state >>> 33) % n);
    }

    private static final class Thing {
        final String text;
        final int at;

        Thing(String text, int at) {
            this.text = text;
            this.at = at;
        }

        boolean isNumber(int least, int most) {
            return text.matches("[0-9]{1,3}") && Integer.parseInt(text) >= least && Integer.parseInt(text) <= most;
        }
    }

    private static List<Thing> things(String text) {
        List<Thing> things = new ArrayList<>();
        Matcher m = Pattern.compile("[a-z]+|[0-9]+|[^ ]").matcher(text);
        while (m.find()) {
            things.add(new Thing(m.group(), m.start()));
        }
        things.add(new Thing("", text.length()));
        return things;
    }

    // ---- THE CITY: each line is a row of what must stand there; what may be left out stands in brackets ----

    private static final String[] LINES = {"house weight 1-99 firm 0-999 [ivy 0-9] [age 0-99]", "lean H O part 0-9",
        "person at H hold 0-99 [on F]", "wander 0-100", "prop 1-99", "evening 0-6", "week 0-999"};

    private static int cityFault(String text) {
        List<Thing> things = things(text);
        int[] at = {0};
        int[] many = new int[2];
        if (things.size() == 1) {
            return -1;
        }
        for (int line = 0;; line++) {
            Thing first = things.get(at[0]);
            String pattern = null;
            for (String one : LINES) {
                pattern = one.startsWith(first.text + " ") && !first.text.isEmpty() ? one : pattern;
            }
            if (pattern == null || line == 14) {
                return first.at;
            }
            if (pattern.startsWith("house") && ++many[0] > 8 || pattern.startsWith("person") && ++many[1] > 6) {
                return first.at;
            }
            int houses = pattern.startsWith("house") ? many[0] - 1 : many[0];
            int fault = lineFault(pattern, things, at, houses);
            if (fault >= 0) {
                return fault;
            }
            Thing behind = things.get(at[0]);
            if (behind.text.isEmpty()) {
                return -1;
            }
            if (!behind.text.equals(";")) {
                return behind.at;
            }
            at[0]++;
        }
    }

    private static int lineFault(String pattern, List<Thing> things, int[] at, int houses) {
        int house = -1;
        String[] items = pattern.split(" ");
        for (int i = 0; i < items.length; i++) {
            Thing thing = things.get(at[0]);
            String item = items[i];
            if (item.startsWith("[")) {
                if (!item.substring(1).equals(thing.text)) {
                    i++;
                    continue;
                }
                item = item.substring(1);
            }
            item = item.replace("]", "");
            boolean right;
            if (item.equals("H")) {
                right = thing.isNumber(0, houses - 1);
                house = right ? Integer.parseInt(thing.text) : -1;
            } else if (item.equals("O")) {
                right = thing.isNumber(0, houses - 1) && Integer.parseInt(thing.text) != house;
            } else if (item.equals("F")) {
                right = thing.text.matches("[01]{7}");
            } else if (item.contains("-")) {
                String[] bounds = item.split("-");
                right = thing.isNumber(Integer.parseInt(bounds[0]), Integer.parseInt(bounds[1]));
            } else {
                right = item.equals(thing.text);
            }
            if (!right) {
                return thing.at;
            }
            at[0]++;
        }
        return -1;
    }

    // ---- THE LAW: a machine of states with what is open on a stack ----

    private enum Awaits { LINE, AMOUNT, IF, ATOM, SIGN, SECOND, PART, MORE }

    @SuppressWarnings("fallthrough")
    private static int lawFault(String text) {
        List<Thing> things = things(text);
        if (things.size() == 1) {
            return -1;
        }
        Deque<String> open = new ArrayDeque<>();
        Awaits awaits = Awaits.LINE;
        boolean second = false;
        int lines = 0;
        for (Thing t : things) {
            String s = t.text;
            boolean summand = s.matches("house|weight|ivy|age|evening|press") || t.isNumber(0, 999);
            switch (awaits) {
                case LINE:
                    if (!s.matches("firm|soft|grow") || ++lines > 12) {
                        return t.at;
                    }
                    awaits = Awaits.AMOUNT;
                    break;
                case AMOUNT:
                    if (!t.isNumber(0, 99)) {
                        return t.at;
                    }
                    awaits = Awaits.IF;
                    break;
                case IF:
                    if (s.isEmpty()) {
                        return -1;
                    }
                    if (!s.equals("if") && !s.equals(";")) {
                        return t.at;
                    }
                    awaits = s.equals("if") ? Awaits.ATOM : Awaits.LINE;
                    break;
                case ATOM:
                    second = false;
                    if (s.equals("not") || s.equals("(")) {
                        if (open.size() == 6) {
                            return t.at;
                        }
                        open.push(s);
                    } else if (s.matches("leaning|leant|held")) {
                        awaits = Awaits.MORE;
                    } else if (summand) {
                        awaits = Awaits.SIGN;
                    } else {
                        return t.at;
                    }
                    break;
                case SIGN:
                    if (s.equals("+")) {
                        awaits = Awaits.PART;
                        break;
                    }
                    if (!second) {
                        if (!s.equals("<") && !s.equals(">")) {
                            return t.at;
                        }
                        second = true;
                        awaits = Awaits.PART;
                        break;
                    }
                    // Fall through: the second sum ends here.
                case MORE:
                    while (!open.isEmpty() && open.peek().equals("not")) {
                        open.pop();
                    }
                    if (s.equals("and") || s.equals("or")) {
                        awaits = Awaits.ATOM;
                    } else if (s.equals(")") && !open.isEmpty()) {
                        open.pop();
                        awaits = Awaits.MORE;
                    } else if (s.isEmpty() && open.isEmpty()) {
                        return -1;
                    } else if (s.equals(";") && open.isEmpty()) {
                        awaits = Awaits.LINE;
                    } else {
                        return t.at;
                    }
                    break;
                default:
                    if (!summand) {
                        return t.at;
                    }
                    awaits = Awaits.SIGN;
            }
        }
        return text.length();
    }

    // ---- texts: mostly right ones, from patterns, with some things changed ----

    private static String cityLine(int houses) {
        int which = random(10);
        String[] items = LINES[which < 4 ? 0 : which < 6 ? 1 : which < 8 ? 2 : 3 + random(4)].split(" ");
        StringBuilder text = new StringBuilder();
        boolean skips = false;
        for (String item : items) {
            boolean may = item.startsWith("[");
            skips = may ? random(2) == 0 : skips && item.endsWith("]");
            if (skips) {
                continue;
            }
            String bare = item.replaceAll("[\\[\\]]", "");
            if (bare.equals("H") || bare.equals("O")) {
                bare = String.valueOf(random(Math.max(1, houses) + (random(9) == 0 ? 1 : 0)));
            } else if (bare.equals("F")) {
                bare = Integer.toBinaryString(128 + random(128)).substring(1);
            } else if (bare.contains("-")) {
                String[] bounds = bare.split("-");
                int least = Integer.parseInt(bounds[0]);
                bare = String.valueOf(least + random(Integer.parseInt(bounds[1]) - least + 1));
            }
            text.append(bare).append(' ');
        }
        return text.toString();
    }

    private static String cityText() {
        StringBuilder text = new StringBuilder();
        int lines = random(12) == 0 ? 13 + random(4) : random(7);
        int houses = 0;
        for (int i = 0; i < lines; i++) {
            String line = cityLine(houses);
            houses += line.startsWith("house") ? 1 : 0;
            text.append(i > 0 ? "; " : "").append(line);
        }
        return text.toString();
    }

    private static String lawText() {
        String[] firsts = {"firm ", "soft ", "grow "};
        String[] atoms = {"not ", "( ", "( ", "leaning ", "leant ", "held ", "press > 3 ", "ivy + 2 < age ", "7 < house + evening ",
            "weight > 999 + 1 "};
        String[] behind = {"and ", "or ", ") ", ") ", "", "; "};
        StringBuilder text = new StringBuilder();
        int lines = random(12) == 0 ? 11 + random(4) : 1 + random(4);
        int open = 0;
        for (int i = 0; i < lines; i++) {
            text.append(i > 0 ? "; " : "").append(firsts[random(3)]).append(random(100)).append(' ');
            if (random(3) > 0) {
                text.append("if ");
                for (int k = random(12); k >= 0; k--) {
                    String atom = atoms[random(atoms.length)];
                    text.append(atom);
                    open += atom.equals("( ") ? 1 : 0;
                    if (atom.length() > 2 && !atom.equals("not ")) {
                        while (open > 0 && random(2) == 0) {
                            text.append(") ");
                            open--;
                        }
                        text.append(k > 0 ? behind[random(10) == 0 ? 2 + random(4) : random(2)] : "");
                    }
                }
                while (open > 0) {
                    text.append(random(30) == 0 ? "" : ") ");
                    open--;
                }
            }
        }
        return text.toString();
    }

    private static String changed(String text) {
        StringBuilder s = new StringBuilder(text);
        String[] pieces = {" ", "  ", "0", "1", "9", "a", "if", ";", "(", ")", " not ", "<", "+", "and ", "-", "\n", "H", "\u00e9", " house ", " on "};
        for (int i = random(3); i > 0 && s.length() > 0; i--) {
            int at = random(s.length());
            switch (random(4)) {
                case 0:
                    s.insert(at, pieces[random(pieces.length)]);
                    break;
                case 1:
                    s.deleteCharAt(at);
                    break;
                case 2:
                    s.setLength(at);
                    break;
                default:
                    // A blank less matters, where two words or two numbers become one.
                    int blank = s.indexOf(" ", at);
                    if (blank >= 0) {
                        s.deleteCharAt(blank);
                    }
            }
        }
        return s.toString();
    }

    public static void main(String[] args) {
        int right = 0;
        for (int run = 0; run < 60000; run++) {
            boolean city = run % 2 == 0;
            String text = changed(city ? cityText() : lawText());
            if (text.length() > 400) {
                continue;
            }
            LeanCity x = new LeanCity();
            Check.tape(x, text);
            int fault = city ? cityFault(text) : lawFault(text);
            right += fault < 0 ? 1 : 0;
            if (fault < 0) {
                Check.is("of '" + text + "'", city ? x.city() : x.law(), city ? 1 : text.isBlank() ? 0 : text.split(";").length);
            } else if (city) {
                Check.fails("city '" + text + "'", IllegalArgumentException.class, x::city);
            } else {
                Check.fails("law '" + text + "'", IllegalArgumentException.class, x::law);
            }
            Check.is("fault of '" + text + "'", x.fault(), fault);
        }
        System.out.println(right + " right texts");
        Check.is("both kinds of texts", right > 5000 && right < 55000, true);
        Check.done();
    }
}
