/** Promises 45 to 48 and 51: evenings to come, trials, spans, seeds. */
public final class TimePromises {
    // 1 grows soft by ivy: of 9 leaves on, 0 stands no more (in EVENING 2 of the first week it has 9).
    private static final String SOFT = "house weight 50 firm 60;house weight 20 firm 99;house weight 5 firm 4;lean 1 0 part 1;"
            + "person at 2 hold 9;evening 6;week 2";

    public static void main(String[] args) {
        downs();
        aheads();
        trials();
        spans();
        seeds();
        Check.done();
    }

    private static LeanCity soft() {
        LeanCity x = Check.city(SOFT);
        Check.law(x, "grow 3 if leant;soft 50 if ivy > 7 and leant");
        return x;
    }

    private static void downs() {
        LeanCity x = soft();
        // 0 bears 60 and stands by 60 and its ivy, 3, 6, 9: that is 3 evenings, and the 4th one takes it.
        Check.is("down", x.down(), 4);
        x.evenings(1);
        Check.is("down", x.down(), 3);
        Check.is("nothing stays", x.count(5), 3);
        x.evenings(2);
        Check.is("down", x.down(), 1);
        Check.is("who FELL", x.evenings(1), 1);
        Check.is("down no more", x.down(), LeanCity.NONE);
        Check.is("nobody there", Check.city("house weight 5 firm 1;evening 3;person at 0 hold 4 on 1101111").down(), 7);
        Check.is("down of none", new LeanCity().down(), LeanCity.NONE);
        // At the 70th: by AGE, ten times 7 evenings on.
        LeanCity late = Check.city("house weight 5 firm 9;evening 6");
        Check.law(late, "soft 9 if age > 9");
        Check.is("in 66 evenings", late.down(), 66);
        LeanCity later = Check.city("house weight 5 firm 9;evening 2");
        Check.law(later, "soft 9 if age > 9");
        Check.is("in 70 evenings", later.down(), 70);
        LeanCity latest = Check.city("house weight 5 firm 9;evening 1");
        Check.law(latest, "soft 9 if age > 9");
        Check.is("in 71 evenings", latest.down(), LeanCity.NONE);
        // Nobody wanders in it.
        LeanCity still = Check.city("house weight 5 firm 1;house weight 5 firm 9;person at 0 hold 9;wander 100");
        Check.is("without (c)", still.down(), LeanCity.NONE);
    }

    private static void aheads() {
        LeanCity x = soft();
        int[] due = {7, 7, 7, 7, 6, 6};
        for (int n = 0; n < due.length; n++) {
            Check.is("ahead(" + n + ")", x.ahead(n), due[n]);
        }
        Check.is("ahead(70)", x.ahead(70), 6);
        Check.is("nothing stays", x.house(0, 2), 0);
        Check.is("no acts", x.count(11), 0);
        Check.fails("ahead(71)", IllegalArgumentException.class, () -> x.ahead(71));
        Check.fails("ahead(-1)", IllegalArgumentException.class, () -> x.ahead(-1));
        Check.is("no draws", x.seed(0), 1);
        LeanCity still = Check.city("house weight 5 firm 1;house weight 5 firm 9;person at 0 hold 9;wander 100");
        Check.is("nobody wanders", still.ahead(70), 3);
        Check.is("ahead of none", new LeanCity().ahead(70), 0);
    }

    private static void trials() {
        LeanCity x = Check.city("house weight 5 firm 1;house weight 5 firm 9;person at 0 hold 9;person at 0 hold 30 on 0000000;wander 100");
        x.seed(3);
        LeanCity y = Check.city("house weight 5 firm 1;house weight 5 firm 9;person at 0 hold 9;person at 0 hold 30 on 0000000;wander 100");
        y.seed(3);
        for (int n = 0; n < 9; n++) {
            Check.is("trial(" + n + ", false)", x.trial(n, false), y.count(8));
            int hold = (y.person(0, 0) == LeanCity.NONE ? 0 : 9) + (y.person(1, 0) == LeanCity.NONE ? 0 : 30);
            Check.is("trial(" + n + ", true)", x.trial(n, true), hold);
            y.evenings(1);
        }
        Check.is("it does fall", x.trial(70, false), 2);
        Check.is("nothing stays", x.count(8), 3);
        Check.is("no row stays", x.count(10), 0);
        Check.is("no DRAW stays", x.seed(1), 3);
        for (int n : new int[] {-1, 71}) {
            Check.fails("trial(" + n + ")", IllegalArgumentException.class, () -> x.trial(n, false));
            Check.fails("trial(" + n + ")", IllegalArgumentException.class, () -> x.trial(n, true));
        }
        Check.is("hold of those not there", Check.city("house weight 5 firm 5;person at 0 hold 7 on 0000000").trial(0, true), 7);
        Check.is("trial of none", new LeanCity().trial(70, true), 0);
    }

    private static void spans() {
        LeanCity x = Check.city("house weight 5 firm 1;house weight 5 firm 9;house weight 5 firm 2;person at 0 hold 9;person at 2 hold 3;wander 30");
        x.seed(77);
        for (int n : new int[] {0, 1, 3, 4, 10}) {
            int least = 9;
            int most = 0;
            for (int seed = 1; seed <= 6; seed++) {
                int before = x.seed(seed);
                int up = Integer.bitCount(x.trial(n, false));
                x.seed(before);
                least = Math.min(least, up);
                most = Math.max(most, up);
            }
            Check.is("span(" + n + ", false)", x.span(n, false), least);
            Check.is("span(" + n + ", true)", x.span(n, true), most);
        }
        // By 4 EVENINGS the least is that of SEED 1 alone, the greatest that of SEED 6 alone.
        Check.is("span(4, false)", x.span(4, false), 1);
        Check.is("span(4, true)", x.span(4, true), 3);
        Check.is("by no seed of its own", x.seed(1), 77);
        for (int n : new int[] {-1, 71}) {
            Check.fails("span(" + n + ")", IllegalArgumentException.class, () -> x.span(n, true));
        }
        Check.is("span(0) of none", new LeanCity().span(0, false), 0);
        Check.is("span(70) of none", new LeanCity().span(70, true), 0);
    }

    private static void seeds() {
        LeanCity x = Check.city("house weight 5 firm 5;person at 0 hold 1");
        Check.is("seed", x.seed(Integer.MIN_VALUE), 1);
        Check.is("seed", x.seed(-1), Integer.MIN_VALUE);
        Check.is("no act", x.count(11), 0);
        x.evenings(1);
        Check.is("seed behind a DRAW", x.seed(0), 12345 - 1103515245);
        x.undo();
        Check.is("undone too", x.seed(0), -1);
    }
}
