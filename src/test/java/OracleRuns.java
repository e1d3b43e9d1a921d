import java.util.ArrayList;
import java.util.Arrays;
import java.util.List;

/** Random runs against a second, plain model of the document that looks through everything by brute force. */
public final class OracleRuns {
    private static long state = 20261119;

    private static int random(int n) {
        state = state * 6364136223846793005L + 1442695040888963407L;
        return (int) ((state >>> 33) % n);
    }

    private static boolean chance(int hundredths) {
        return random(100) < hundredths;
    }

    // ---- the model ----

    private interface Condition {
        boolean holds(World w, int h, int evening);
    }

    private interface Sum {
        int of(World w, int h, int evening);
    }

    private static final class Line {
        int kind;
        int n;
        Condition condition;
        String text;
    }

    private static final class World {
        List<int[]> houses = new ArrayList<>();     // weight, firm, ivy, age, fallen
        int[][] part = new int[8][8];
        List<int[]> people = new ArrayList<>();     // at, hold, evenings
        List<int[]> log = new ArrayList<>();        // the latest last
        List<Line> law;
        int evening;
        int week;
        int wander;
        int prop = 20;
        int texts;
        int seed = 1;

        World copy() {
            World c = new World();
            for (int[] h : houses) {
                c.houses.add(h.clone());
            }
            for (int[] p : people) {
                c.people.add(p.clone());
            }
            for (int[] l : log) {
                c.log.add(l.clone());
            }
            for (int i = 0; i < 8; i++) {
                c.part[i] = part[i].clone();
            }
            c.law = law;
            c.evening = evening;
            c.week = week;
            c.wander = wander;
            c.prop = prop;
            c.texts = texts;
            c.seed = seed;
            return c;
        }

        boolean up(int h) {
            return h >= 0 && h < houses.size() && houses.get(h)[4] == 0;
        }

        int upBits() {
            int bits = 0;
            for (int h = 0; h < houses.size(); h++) {
                bits |= up(h) ? 1 << h : 0;
            }
            return bits;
        }

        int[] press() {
            int[] now = new int[8];
            for (int turn = 0; turn < 12; turn++) {
                int[] next = new int[8];
                for (int to = 0; to < 8; to++) {
                    for (int from = 0; from < 8; from++) {
                        if (part[from][to] > 0) {
                            int half = (houses.get(from)[0] + now[from]) / 2;
                            next[to] += half * part[from][to] / Arrays.stream(part[from]).sum();
                        }
                    }
                }
                now = next;
            }
            return now;
        }

        boolean leaning(int h) {
            return Arrays.stream(part[h]).sum() > 0;
        }

        boolean leant(int h) {
            for (int i = 0; i < 8; i++) {
                if (part[i][h] > 0) {
                    return true;
                }
            }
            return false;
        }

        boolean heldIn(int h, int evening) {
            for (int[] p : people) {
                if (p[0] == h && (p[2] & 1 << evening) != 0) {
                    return true;
                }
            }
            return false;
        }

        int bears(int h) {
            return press()[h] + (leaning(h) ? 0 : houses.get(h)[0]);
        }

        int lines(int kind, int h, int evening) {
            int sum = 0;
            if (law != null) {
                for (Line l : law) {
                    if (l.kind == kind && (l.condition == null || l.condition.holds(this, h, evening))) {
                        sum += l.n;
                    }
                }
            }
            return sum;
        }

        int stands(int h, int evening) {
            int sum = houses.get(h)[1] + houses.get(h)[2];
            for (int[] p : people) {
                if (p[0] == h && (p[2] & 1 << evening) != 0) {
                    sum += p[1];
                }
            }
            return Math.max(0, sum + lines(0, h, evening) - lines(1, h, evening));
        }

        int sags(int h, int evening) {
            return bears(h) - stands(h, evening);
        }

        void away(int h) {
            houses.get(h)[4] = 1;
            for (int i = 0; i < 8; i++) {
                part[i][h] = 0;
                part[h][i] = 0;
            }
            for (int[] p : people) {
                if (p[0] == h) {
                    p[0] = -1;
                }
            }
        }

        /** Rounds; props: bits of houses that stand by PROP more. */
        int fall(int evening, int props) {
            for (int round = 1;; round++) {
                List<int[]> falling = new ArrayList<>();
                for (int h = 0; h < houses.size(); h++) {
                    int sag = up(h) ? sags(h, evening) - ((props & 1 << h) != 0 ? prop : 0) : 0;
                    if (sag > 0) {
                        falling.add(new int[] {week, evening, h, round, sag, 0});
                    }
                }
                if (falling.isEmpty()) {
                    return round - 1;
                }
                for (int[] row : falling) {
                    log.add(row);
                    away(row[2]);
                }
            }
        }

        int draw() {
            seed = seed * 1103515245 + 12345;
            return (seed >> 16) & 0x7fff;
        }

        void evening(boolean wandering) {
            fall(evening, 0);
            for (int h = 0; h < houses.size(); h++) {
                if (up(h)) {
                    int[] house = houses.get(h);
                    house[2] = Math.min(9, house[2] + lines(2, h, evening));
                    if (evening == 0) {
                        house[3] = Math.min(99, house[3] + 1);
                    }
                }
            }
            for (int[] p : people) {
                if (wandering && p[0] >= 0 && draw() % 100 < wander) {
                    List<Integer> ups = new ArrayList<>();
                    for (int h = 0; h < houses.size(); h++) {
                        if (up(h)) {
                            ups.add(h);
                        }
                    }
                    p[0] = ups.get(draw() % ups.size());
                }
            }
            evening = (evening + 1) % 7;
            if (evening == 0) {
                week = Math.min(9999, week + 1);
            }
        }

        World later(int n, boolean wandering) {
            World c = copy();
            for (int i = 0; i < n; i++) {
                c.evening(wandering);
            }
            return c;
        }

        int falls(int evening) {
            World c = copy();
            c.fall(evening, 0);
            return upBits() & ~c.upBits();
        }

        int fallsWithout(int person, int evening) {
            World c = copy();
            c.people.get(person)[0] = -1;
            return c.falls(evening);
        }

        int pulls(int h) {
            World c = copy();
            c.away(h);
            c.fall(evening, 0);
            return Integer.bitCount(upBits()) - Integer.bitCount(c.upBits());
        }

        int props(int evening) {
            int best = -1;
            for (int set = 0; set < 256; set++) {
                if ((set & ~upBits()) == 0) {
                    World c = copy();
                    if (c.fall(evening, set) == 0 && (best < 0 || Integer.bitCount(set) < Integer.bitCount(best))) {
                        best = set;
                    }
                }
            }
            return best;
        }

        int steps(List<Integer> order) {
            World c = copy();
            int steps = 0;
            for (int place = 0; place < order.size(); place++) {
                int before = c.upBits();
                if (c.up(order.get(place))) {
                    c.away(order.get(place));
                    c.fall(evening, 0);
                }
                steps += place * Integer.bitCount(before & ~c.upBits());
            }
            return steps;
        }

        List<Integer> bestOrder(List<Integer> told) {
            List<List<Integer>> all = new ArrayList<>();
            permute(new ArrayList<>(), told, all);
            List<Integer> best = null;
            for (List<Integer> order : all) {
                if (best == null || steps(order) > steps(best) || steps(order) == steps(best) && less(order, best)) {
                    best = order;
                }
            }
            return best;
        }

        int reach(int h) {
            int bits = 0;
            List<Integer> open = new ArrayList<>(List.of(h));
            while (!open.isEmpty()) {
                int from = open.remove(open.size() - 1);
                for (int to = 0; to < 8; to++) {
                    if (part[from][to] > 0 && (bits & 1 << to) == 0) {
                        bits |= 1 << to;
                        open.add(to);
                    }
                }
            }
            return bits;
        }

        boolean joined(int a, int b, int without) {
            boolean[] seen = new boolean[8];
            List<Integer> open = new ArrayList<>(List.of(a));
            while (!open.isEmpty()) {
                int from = open.remove(0);
                if (from == b) {
                    return true;
                }
                if (!seen[from]) {
                    seen[from] = true;
                    for (int to = 0; to < 8; to++) {
                        if (to != without && part[from][to] + part[to][from] > 0) {
                            open.add(to);
                        }
                    }
                }
            }
            return false;
        }

        int apart(int h) {
            int pairs = 0;
            for (int a = 0; a < houses.size(); a++) {
                for (int b = a + 1; b < houses.size(); b++) {
                    if (a != h && b != h && up(a) && up(b) && up(h) && joined(a, b, -1) && !joined(a, b, h)) {
                        pairs++;
                    }
                }
            }
            return pairs;
        }

        int pieces() {
            int pieces = 0;
            for (int a = 0; a < houses.size(); a++) {
                boolean first = up(a);
                for (int b = 0; b < a; b++) {
                    first &= !(up(b) && joined(a, b, -1));
                }
                pieces += first ? 1 : 0;
            }
            return pieces;
        }

        int greatest() {
            int most = Integer.MIN_VALUE;
            for (int h = 0; h < houses.size(); h++) {
                if (up(h)) {
                    most = Math.max(most, sags(h, evening));
                }
            }
            return upBits() == 0 ? 0 : most;
        }

        int eases() {
            int least = greatest();
            int best = -1;
            for (int a = 0; a < houses.size(); a++) {
                for (int b = a + 1; b < houses.size(); b++) {
                    if (up(a) && up(b)) {
                        World c = copy();
                        c.part[a][b] = Math.min(9, c.part[a][b] + 1);
                        c.part[b][a] = Math.min(9, c.part[b][a] + 1);
                        if (c.greatest() < least) {
                            least = c.greatest();
                            best = 8 * a + b;
                        }
                    }
                }
            }
            return best;
        }

        /** The least lean (64: none) by which rows fit, or all of them. */
        List<Integer> fitting(int[] rows) {
            List<Integer> fits = new ArrayList<>();
            for (int lean = 0; lean <= 64; lean++) {
                int[] press = pressWithout(lean);
                boolean fit = press != null;
                for (int i = 0; fit && i < rows.length; i += 2) {
                    fit = Math.abs(press[rows[i]] - rows[i + 1]) <= 1;
                }
                if (fit) {
                    fits.add(lean);
                }
            }
            return fits;
        }

        int[] pressWithout(int lean) {
            World c = copy();
            if (lean < 64) {
                if (c.part[lean / 8][lean % 8] == 0) {
                    return null;
                }
                c.part[lean / 8][lean % 8] = 0;
            }
            return c.press();
        }

        int tap(int[] rows) {
            List<Integer> fits = fitting(rows);
            if (fits.size() < 2) {
                return -1;
            }
            int best = -1;
            int least = 1000;
            for (int h = 0; h < houses.size(); h++) {
                int[] alike = new int[10000];
                int most = 0;
                for (int lean : fits) {
                    int value = pressWithout(lean)[h];
                    alike[value]++;
                    most = Math.max(most, alike[value]);
                }
                if (up(h) && most < least) {
                    least = most;
                    best = h;
                }
            }
            return best;
        }

        int[] bestGates;
        int bestHeld;

        void gates() {
            World bare = copy();
            for (int[] p : bare.people) {
                p[0] = -1;
            }
            int[] sags = new int[8];
            for (int h = 0; h < houses.size(); h++) {
                sags[h] = up(h) ? bare.sags(h, evening) : 0;
            }
            bestHeld = -1;
            bestGates = null;
            tryGates(new int[people.size()], 0, 0, 0, sags);
        }

        private void tryGates(int[] at, int p, int taken, int heldSoFar, int[] sags) {
            if (p == people.size()) {
                if (heldSoFar > bestHeld) {
                    bestHeld = heldSoFar;
                    bestGates = at.clone();
                }
                return;
            }
            at[p] = -1;
            tryGates(at, p + 1, taken, heldSoFar, sags);
            for (int h = 0; h < houses.size(); h++) {
                if (up(h) && (taken & 1 << h) == 0) {
                    at[p] = h;
                    boolean is = (people.get(p)[2] & 1 << evening) != 0;
                    int more = is ? Math.max(0, Math.min(people.get(p)[1], sags[h])) : 0;
                    tryGates(at, p + 1, taken | 1 << h, heldSoFar + more, sags);
                }
            }
        }
    }

    private static boolean less(List<Integer> a, List<Integer> b) {
        for (int i = 0; i < a.size(); i++) {
            if (!a.get(i).equals(b.get(i))) {
                return a.get(i) < b.get(i);
            }
        }
        return false;
    }

    private static void permute(List<Integer> ahead, List<Integer> left, List<List<Integer>> all) {
        if (left.isEmpty()) {
            all.add(new ArrayList<>(ahead));
        }
        for (int i = 0; i < left.size(); i++) {
            List<Integer> rest = new ArrayList<>(left);
            ahead.add(rest.remove(i));
            permute(ahead, rest, all);
            ahead.remove(ahead.size() - 1);
        }
    }

    // ---- texts ----

    private static String gap(boolean needed) {
        String[] gaps = {"", " ", " ", "  "};
        String gap = gaps[random(4)];
        return needed && gap.isEmpty() ? " " : gap;
    }

    private static String lawText;

    private static Condition choice(int deep) {
        Condition left = all(deep);
        while (chance(25)) {
            lawText += " or ";
            Condition one = left;
            Condition two = all(deep);
            left = (w, h, e) -> one.holds(w, h, e) || two.holds(w, h, e);
        }
        return left;
    }

    private static Condition all(int deep) {
        Condition left = atom(deep);
        while (chance(25)) {
            lawText += " and ";
            Condition one = left;
            Condition two = atom(deep);
            left = (w, h, e) -> one.holds(w, h, e) && two.holds(w, h, e);
        }
        return left;
    }

    private static Condition atom(int deep) {
        int which = random(8);
        if (deep < 6 && which == 0) {
            lawText += " not ";
            Condition one = atom(deep + 1);
            return (w, h, e) -> !one.holds(w, h, e);
        }
        if (deep < 6 && which == 1) {
            lawText += "(" + gap(false);
            Condition one = choice(deep + 1);
            lawText += gap(false) + ")";
            return one;
        }
        if (which == 2) {
            lawText += " leaning ";
            return (w, h, e) -> w.leaning(h);
        }
        if (which == 3) {
            lawText += " leant ";
            return (w, h, e) -> w.leant(h);
        }
        if (which == 4) {
            lawText += " held ";
            return (w, h, e) -> w.heldIn(h, e);
        }
        Sum left = sum();
        boolean less = chance(50);
        lawText += gap(false) + (less ? "<" : ">") + gap(false);
        Sum right = sum();
        return less ? (w, h, e) -> left.of(w, h, e) < right.of(w, h, e) : (w, h, e) -> left.of(w, h, e) > right.of(w, h, e);
    }

    private static Sum sum() {
        Sum left = summand();
        while (chance(25)) {
            lawText += gap(false) + "+" + gap(false);
            Sum one = left;
            Sum two = summand();
            left = (w, h, e) -> one.of(w, h, e) + two.of(w, h, e);
        }
        return left;
    }

    private static Sum summand() {
        String[] names = {"house", "weight", "ivy", "age", "evening", "press"};
        int which = random(9);
        if (which >= names.length) {
            int n = random(chance(20) ? 1000 : 20);
            lawText += n;
            return (w, h, e) -> n;
        }
        lawText += names[which];
        switch (which) {
            case 0: return (w, h, e) -> h;
            case 1: return (w, h, e) -> w.houses.get(h)[0];
            case 2: return (w, h, e) -> w.houses.get(h)[2];
            case 3: return (w, h, e) -> w.houses.get(h)[3];
            case 4: return (w, h, e) -> e;
            default: return (w, h, e) -> w.press()[h];
        }
    }

    private static List<Line> law() {
        List<Line> lines = new ArrayList<>();
        int many = random(6);
        for (int i = 0; i < many; i++) {
            Line line = new Line();
            line.kind = random(3);
            line.n = random(chance(30) ? 100 : 12);
            lawText = new String[] {"firm", "soft", "grow"}[line.kind] + gap(false) + line.n + gap(false);
            if (chance(80)) {
                lawText += "if ";
                line.condition = choice(0);
            }
            line.text = lawText + gap(false);
            lines.add(line);
        }
        return lines;
    }

    private static void giveLaw(LeanCity x, World w) {
        List<Line> lines = law();
        StringBuilder text = new StringBuilder(gap(false));
        for (Line line : lines) {
            if (text.toString().trim().length() > 0) {
                text.append(";");
            }
            text.append(gap(false)).append(line.text);
        }
        if (text.length() > 400) {
            return;
        }
        Check.is("law " + text, Check.law(x, text.toString()), lines.size());
        w.law = lines;
    }

    private static void giveCity(LeanCity x, World w, boolean whole) {
        StringBuilder text = new StringBuilder();
        World c = w.copy();
        int many = whole ? 14 : random(5);
        for (int i = 0; i < many; i++) {
            String line = line(c, whole && i < 3 + random(5) ? 0 : random(whole ? 8 : 9));
            text.append(i > 0 ? ";" : "").append(gap(false)).append(line).append(gap(false));
        }
        if (text.length() > 400) {
            giveCity(x, w, whole);
            return;
        }
        Check.tape(x, text.toString());
        if (w.texts == 12) {
            Check.fails("13th city", UnsupportedOperationException.class, x::city);
            return;
        }
        Check.is("city " + text, x.city(), w.texts + 1);
        c.texts++;
        w.houses = c.houses;
        w.people = c.people;
        w.part = c.part;
        w.evening = c.evening;
        w.week = c.week;
        w.wander = c.wander;
        w.prop = c.prop;
        w.texts = c.texts;
    }

    private static int someUp(World w) {
        int h = random(8);
        for (int i = 0; i < 8; i++) {
            if (w.up((h + i) % 8)) {
                return (h + i) % 8;
            }
        }
        return -1;
    }

    private static String line(World c, int which) {
        int a = someUp(c);
        int b = someUp(c);
        if (which == 0 && c.houses.size() < 8) {
            int[] h = {1 + random(99), random(chance(20) ? 1000 : 100), 0, 0, 0};
            String text = "house weight " + h[0] + " firm " + h[1];
            if (chance(40)) {
                h[2] = random(10);
                text += " ivy " + h[2];
            }
            if (chance(40)) {
                h[3] = random(100);
                text += " age " + h[3];
            }
            c.houses.add(h);
            return text;
        }
        if (which == 1 && a >= 0 && c.people.size() < 6) {
            int[] p = {a, random(100), 127};
            String text = "person at " + a + " hold " + p[1];
            if (chance(60)) {
                p[2] = random(128);
                text += " on ";
                for (int e = 0; e < 7; e++) {
                    text += p[2] >> e & 1;
                }
            }
            c.people.add(p);
            return text;
        }
        if (which >= 2 && which <= 6 && a >= 0 && a != b) {
            c.part[a][b] = random(10);
            return "lean " + a + " " + b + " part " + c.part[a][b];
        }
        switch (random(4)) {
            case 0:
                c.wander = random(101);
                return "wander " + c.wander;
            case 1:
                c.prop = 1 + random(99);
                return "prop " + c.prop;
            case 2:
                c.evening = random(7);
                return "evening " + c.evening;
            default:
                c.week = random(1000);
                return "week " + c.week;
        }
    }

    // ---- runs ----

    private static final List<World> past = new ArrayList<>();
    private static World kept;

    public static void main(String[] args) {
        for (int run = 0; run < 120; run++) {
            past.clear();
            kept = null;
            LeanCity x = new LeanCity();
            World w = new World();
            giveCity(x, w, true);
            if (chance(80)) {
                giveLaw(x, w);
            }
            for (int turn = 0; turn < 25; turn++) {
                w = act(x, w);
                compare(x, w);
                if (turn % 5 == 0) {
                    compareDear(x, w);
                }
            }
        }
        Check.done();
    }

    private static void remember(World w) {
        past.add(w.copy());
        if (past.size() > 12) {
            past.remove(0);
        }
    }

    private static World act(LeanCity x, World w) {
        int a = random(w.houses.size() + 1);
        int b = random(w.houses.size() + 1);
        int p = random(w.people.size() + 1);
        int part = random(10);
        boolean isA = a < w.houses.size();
        boolean isB = b < w.houses.size();
        switch (random(14)) {
            case 0: {
                int n = chance(80) ? 1 + random(3) : 1 + random(70);
                remember(w);
                int before = Integer.bitCount(w.upBits());
                World c = w.later(n, true);
                Check.is("evenings(" + n + ")", x.evenings(n), before - Integer.bitCount(c.upBits()));
                return c;
            }
            case 1: {
                int weight = 1 + random(99);
                int firm = random(200);
                if (!isA) {
                    Check.fails("build", IndexOutOfBoundsException.class, () -> x.build(weight, firm, a, part));
                } else if (part == 0) {
                    Check.fails("build", IllegalArgumentException.class, () -> x.build(weight, firm, a, part));
                } else if (!w.up(a) || w.houses.size() == 8) {
                    Check.fails("build", IllegalStateException.class, () -> x.build(weight, firm, a, part));
                } else {
                    remember(w);
                    Check.is("build", x.build(weight, firm, a, part), w.houses.size());
                    w.part[w.houses.size()][a] = part;
                    w.houses.add(new int[] {weight, firm, 0, 0, 0});
                }
                return w;
            }
            case 2:
            case 3:
                if (!isA || !isB) {
                    Check.fails("lean", IndexOutOfBoundsException.class, () -> x.lean(a, b, part));
                } else if (a == b) {
                    Check.fails("lean", IllegalArgumentException.class, () -> x.lean(a, b, part));
                } else if (!w.up(a) || !w.up(b)) {
                    Check.fails("lean", IllegalStateException.class, () -> x.lean(a, b, part));
                } else {
                    remember(w);
                    Check.is("lean", x.lean(a, b, part), w.part[a][b]);
                    w.part[a][b] = part;
                }
                return w;
            case 4:
                if (!isA || !isB) {
                    Check.fails("wed", IndexOutOfBoundsException.class, () -> x.wed(a, b));
                } else if (a == b) {
                    Check.fails("wed", IllegalArgumentException.class, () -> x.wed(a, b));
                } else if (!w.up(a) || !w.up(b)) {
                    Check.fails("wed", IllegalStateException.class, () -> x.wed(a, b));
                } else {
                    remember(w);
                    w.part[a][b] = Math.min(9, w.part[a][b] + 1);
                    w.part[b][a] = Math.min(9, w.part[b][a] + 1);
                    Check.is("wed", x.wed(a, b), w.part[a][b]);
                }
                return w;
            case 5:
                if (!isA) {
                    Check.fails("trim", IndexOutOfBoundsException.class, () -> x.trim(a));
                } else if (!w.up(a)) {
                    Check.fails("trim", IllegalStateException.class, () -> x.trim(a));
                } else {
                    remember(w);
                    Check.is("trim", x.trim(a), w.houses.get(a)[2]);
                    w.houses.get(a)[2] = 0;
                }
                return w;
            case 6:
            case 7:
                if (!isA || p == w.people.size()) {
                    Check.fails("move", IndexOutOfBoundsException.class, () -> x.move(p, a));
                } else if (!w.up(a)) {
                    Check.fails("move", IllegalStateException.class, () -> x.move(p, a));
                } else {
                    remember(w);
                    Check.is("move", x.move(p, a), w.people.get(p)[0]);
                    w.people.get(p)[0] = a;
                }
                return w;
            case 8:
                if (p == w.people.size() || part > 6) {
                    Check.fails("come", IndexOutOfBoundsException.class, () -> x.come(p, part, true));
                } else {
                    remember(w);
                    boolean is = chance(50);
                    int days = w.people.get(p)[2] & ~(1 << part) | (is ? 1 << part : 0);
                    Check.is("come", x.come(p, part, is), days != w.people.get(p)[2]);
                    w.people.get(p)[2] = days;
                }
                return w;
            case 9:
                if (!isA) {
                    Check.fails("raze", IndexOutOfBoundsException.class, () -> x.raze(a));
                } else if (!w.up(a)) {
                    Check.fails("raze", IllegalStateException.class, () -> x.raze(a));
                } else if (chance(40)) {
                    remember(w);
                    Check.is("raze", x.raze(a), w.bears(a));
                    w.log.add(new int[] {w.week, w.evening, a, 0, 0, 1});
                    w.away(a);
                }
                return w;
            case 10:
                Check.is("undo", x.undo(), !past.isEmpty());
                return past.isEmpty() ? w : past.remove(past.size() - 1);
            case 11: {
                int seed = random(1 << 30);
                Check.is("seed", x.seed(seed), w.seed);
                w.seed = seed;
                return w;
            }
            case 12:
                if (chance(50)) {
                    x.image();
                    kept = w.copy();
                    return w;
                }
                Check.is("back", x.back(), kept != null);
                if (kept != null) {
                    past.clear();
                    return kept.copy();
                }
                return w;
            default:
                if (chance(50)) {
                    giveLaw(x, w);
                } else {
                    giveCity(x, w, false);
                }
                past.clear();
                return w;
        }
    }

    private static void compare(LeanCity x, World w) {
        int[] press = w.press();
        int all = 0;
        for (int h = 0; h < w.houses.size(); h++) {
            all += w.up(h) ? w.bears(h) : 0;
        }
        for (int h = 0; h < w.houses.size(); h++) {
            int[] house = w.houses.get(h);
            int[] due = new int[13];
            System.arraycopy(house, 0, due, 0, 5);
            if (w.up(h)) {
                due[5] = press[h];
                due[6] = w.bears(h);
                due[7] = w.stands(h, w.evening);
                due[8] = w.sags(h, w.evening);
                due[9] = w.lines(2, h, w.evening);
                due[10] = all == 0 ? 0 : w.bears(h) * 100 / all;
                due[11] = Math.max(0, house[1] / 10 + house[2] - house[3] / 5);
                for (int p = 0; p < w.people.size(); p++) {
                    due[12] |= w.people.get(p)[0] == h ? 1 << p : 0;
                }
            }
            for (int what = 0; what < 13; what++) {
                Check.is("house(" + h + ", " + what + ")", x.house(h, what), due[what]);
            }
            for (int other = 0; other < w.houses.size(); other++) {
                Check.is("part", x.part(h, other), w.part[h][other]);
            }
            int reach = w.reach(h);
            Check.is("held", x.held(h), reach);
            Check.is("ring", x.ring(h), (reach & 1 << h) != 0);
            Check.is("apart", x.apart(h), w.apart(h));
            int rows = 0;
            int week = -1;
            for (int[] row : w.log) {
                rows += row[2] == h ? 1 : 0;
                week = row[2] == h ? row[0] : week;
            }
            Check.is("led", x.led(h, false), rows);
            Check.is("led week", x.led(h, true), week);
        }
        compareCounts(x, w, all);
        comparePeople(x, w);
        for (int ago = 0; ago <= w.log.size(); ago++) {
            for (int what = 0; what < 6; what++) {
                int due = ago < w.log.size() ? w.log.get(w.log.size() - 1 - ago)[what] : -1;
                Check.is("log(" + ago + ", " + what + ")", x.log(ago, what), due);
            }
        }
    }

    private static void compareCounts(LeanCity x, World w, int all) {
        int[] due = {w.houses.size(), w.people.size(), w.texts, w.law == null ? -1 : w.law.size(), w.evening, w.week, w.wander,
            w.prop, w.upBits(), all, w.log.size(), past.size()};
        for (int what = 0; what < due.length; what++) {
            Check.is("count(" + what + ")", x.count(what), due[what]);
        }
        int ends = 0;
        int straight = 0;
        int leans = 0;
        int twins = 0;
        int oldest = -1;
        for (int h = 0; h < w.houses.size(); h++) {
            if (!w.up(h)) {
                continue;
            }
            ends |= w.leaning(h) ? 0 : 1 << h;
            straight |= w.leaning(h) || w.leant(h) ? 0 : 1 << h;
            for (int other = 0; other < 8; other++) {
                leans += w.part[h][other] > 0 ? 1 : 0;
                twins += other < h && w.up(other) && w.houses.get(h)[0] == w.houses.get(other)[0]
                        && w.houses.get(h)[1] == w.houses.get(other)[1] ? 1 : 0;
            }
            oldest = oldest < 0 || w.houses.get(h)[3] > w.houses.get(oldest)[3] ? h : oldest;
        }
        Check.is("ends", x.ends(), ends);
        Check.is("straight", x.straight(), straight);
        Check.is("leans", x.leans(), leans);
        Check.is("twins", x.twins(), twins);
        Check.is("oldest", x.oldest(), oldest);
        Check.is("pieces", x.pieces(), w.pieces());
        Check.is("sagging", x.sagging(), w.greatest());
    }

    private static void comparePeople(LeanCity x, World w) {
        for (int p = 0; p < w.people.size(); p++) {
            for (int what = 0; what < 3; what++) {
                Check.is("person", x.person(p, what), w.people.get(p)[what]);
            }
        }
        for (int e = 0; e < 7; e++) {
            int there = 0;
            for (int p = 0; p < w.people.size(); p++) {
                there |= w.people.get(p)[0] >= 0 && (w.people.get(p)[2] & 1 << e) != 0 ? 1 << p : 0;
            }
            Check.is("there", x.there(e), there);
        }
        int n = random(5);
        int odds = 10000;
        for (int e = 0; e < n; e++) {
            for (int[] p : w.people) {
                odds = p[0] < 0 ? odds : odds * (100 - w.wander) / 100;
            }
        }
        Check.is("odds", x.odds(n), odds);
    }

    private static void compareDear(LeanCity x, World w) {
        compareFalls(x, w);
        compareRows(x, w);
        Check.is("eases", x.eases(), w.eases());
        if (w.people.size() <= 4) {
            w.gates();
            Check.is("gates", x.gates(-1), w.bestHeld);
            for (int p = 0; p < w.people.size(); p++) {
                Check.is("gates(" + p + ")", x.gates(p), w.bestGates[p]);
            }
        }
        int down = -1;
        for (int n = 70; n >= 1; n--) {
            down = w.later(n, false).upBits() != w.upBits() ? n : down;
        }
        Check.is("down", x.down(), down);
        int n = random(chance(70) ? 10 : 71);
        Check.is("ahead", x.ahead(n), w.later(n, false).upBits());
        World then = w.later(n, true);
        Check.is("trial", x.trial(n, false), then.upBits());
        int hold = 0;
        for (int[] p : then.people) {
            hold += p[0] >= 0 ? p[1] : 0;
        }
        Check.is("trial hold", x.trial(n, true), hold);
        int least = 9;
        int most = -1;
        for (int seed = 1; seed <= 6; seed++) {
            World c = w.copy();
            c.seed = seed;
            int up = Integer.bitCount(c.later(n, true).upBits());
            least = Math.min(least, up);
            most = Math.max(most, up);
        }
        Check.is("span", x.span(n, false), least);
        Check.is("span most", x.span(n, true), most);
    }

    private static void compareFalls(LeanCity x, World w) {
        int weakest = 0;
        int spare = (1 << w.people.size()) - 1;
        for (int e = 0; e < 7; e++) {
            Check.is("falls", x.falls(e), w.falls(e));
            Check.is("rounds", x.rounds(e), w.copy().fall(e, 0));
            Check.is("props", x.props(e), w.props(e));
            weakest = Integer.bitCount(w.falls(e)) > Integer.bitCount(w.falls(weakest)) ? e : weakest;
            for (int p = 0; p < w.people.size(); p++) {
                spare &= (w.fallsWithout(p, e) & ~w.falls(e)) == 0 ? -1 : ~(1 << p);
            }
        }
        Check.is("weakest", x.weakest(), weakest);
        Check.is("spare", x.spare(), spare);
        int key = -1;
        for (int h = 0; h < w.houses.size(); h++) {
            if (w.up(h)) {
                Check.is("pulls", x.pulls(h), w.pulls(h));
                key = key < 0 || w.pulls(h) > w.pulls(key) ? h : key;
            }
        }
        Check.is("key", x.key(), key);
        for (int p = 0; p < w.people.size(); p++) {
            Check.is("needs", x.person(p, 3), w.fallsWithout(p, w.evening) & ~w.falls(w.evening));
            for (int q = 0; q < w.people.size(); q++) {
                if (p != q) {
                    World c = w.copy();
                    c.people.get(p)[0] = w.people.get(q)[0];
                    c.people.get(q)[0] = w.people.get(p)[0];
                    Check.is("swap", x.swap(p, q), Integer.bitCount(c.falls(w.evening)) < Integer.bitCount(w.falls(w.evening)));
                }
            }
        }
    }

    private static void compareRows(LeanCity x, World w) {
        List<Integer> told = new ArrayList<>();
        for (int i = random(6); i > 0; i--) {
            int h = someUp(w);
            if (h >= 0 && !told.contains(h)) {
                told.add(h);
            }
        }
        int[] bytes = new int[told.size()];
        for (int i = 0; i < bytes.length; i++) {
            bytes[i] = told.get(i);
        }
        List<Integer> best = w.bestOrder(told);
        Check.tape(x, bytes);
        Check.is("means", x.means(), w.steps(best));
        for (int k = -1; k <= bytes.length; k++) {
            Check.tape(x, bytes);
            Check.is("order", x.order(k), k >= 0 && k < bytes.length ? best.get(k) : -1);
        }
        for (int turn = 0; turn < 4; turn++) {
            int[] press = w.pressWithout(64);
            int lean = random(64);
            press = w.pressWithout(lean) != null ? w.pressWithout(lean) : press;
            int[] rows = new int[w.houses.isEmpty() ? 0 : 2 * random(4)];
            for (int i = 0; i < rows.length; i += 2) {
                rows[i] = random(w.houses.size());
                rows[i + 1] = Math.max(0, Math.min(255, press[rows[i]] + random(chance(20) ? 7 : 3) - 1));
            }
            Check.tape(x, rows);
            Check.is("broken", x.broken(false), w.fitting(rows).size());
            Check.tape(x, rows);
            Check.is("broken which", x.broken(true), w.fitting(rows).isEmpty() ? -1 : w.fitting(rows).get(0));
            Check.tape(x, rows);
            Check.is("tap", x.tap(), w.tap(rows));
        }
    }
}
