/** Whatever was asked ahead of it, and ahead of an act, a text, undoing or going back behind which it is asked: a question answers the same. */
public final class QuestionsInAnyOrder {
    private static final int QUESTIONS = 55;
    private static final int ACTS = 13;

    public static void main(String[] args) {
        Check.says("a question changes nothing: two of them in any order, at once and behind each act");
        int[] unlike = new int[QUESTIONS];
        int[] due = new int[QUESTIONS];
        int[] first = new int[QUESTIONS];
        for (int act = 0; act < ACTS; act++) {
            for (int q = 0; q < QUESTIONS; q++) {
                LeanCity x = rich();
                act(x, act);
                due[q] = ask(x, q);
                first[q] = act == 0 ? due[q] : first[q];
                unlike[q] += due[q] != first[q] ? 1 : 0;
            }
            for (int ahead = 0; ahead < QUESTIONS; ahead++) {
                for (int q = 0; q < QUESTIONS; q++) {
                    LeanCity x = rich();
                    ask(x, ahead);
                    act(x, act);
                    Check.is("question " + q + " behind question " + ahead + " and act " + act, ask(x, q), due[q]);
                }
            }
        }
        Check.says("and each of them does hang on what was done");
        for (int q = 0; q < QUESTIONS; q++) {
            Check.is("question " + q, unlike[q] > 0, true);
        }
        Check.done();
    }

    /** There is something to be found by each question, and something to be undone and gone back to. */
    private static LeanCity rich() {
        LeanCity x = Check.city("house weight 40 firm 31 ivy 2 age 12;house weight 20 firm 12 age 3;house weight 60 firm 29 age 7;house weight 9 firm 50;"
                + "house weight 9 firm 6;house weight 30 firm 20;lean 0 1 part 2;lean 0 2 part 3;lean 1 2 part 1;lean 4 5 part 4;"
                + "person at 2 hold 30 on 1010101;person at 5 hold 25 on 0111110;person at 3 hold 19");
        Check.law(x, "firm 2 if held and evening < 5;soft 3 if leant or age > 11;grow 1 if press > 9");
        x.image();
        Check.more(x, "evening 3;week 8;wander 30;prop 15;person at 4 hold 7 on 0000111");
        x.raze(3);
        x.seed(6);
        return x;
    }

    private static void act(LeanCity x, int which) {
        switch (which) {
            case 0: break;
            case 1: x.evenings(1); break;
            case 2: x.evenings(30); break;
            case 3: x.build(33, 3, 0, 2); break;
            case 4: x.lean(5, 0, 9); break;
            case 5: x.wed(1, 5); break;
            case 6: x.trim(0); break;
            case 7: x.move(0, 1); break;
            case 8: x.come(1, 3, false); break;
            case 9: x.raze(2); break;
            case 10: x.undo(); break;
            case 11: x.back(); break;
            default:
                Check.law(x, "firm 20 if house > 3");
                Check.more(x, "house weight 40 firm 31 ivy 9 age 50;lean 6 1 part 1;person at 6 hold 3;evening 5;wander 70;prop 3");
        }
    }

    /** What is thrown (of HOUSES that are FALLEN, or taken back) is an answer, too. */
    private static int ask(LeanCity x, int which) {
        try {
            return which < 30 ? askOfFalls(x, which) : askOfLeans(x, which);
        } catch (IllegalStateException e) {
            return -99991;
        } catch (IllegalArgumentException e) {
            return -99992;
        } catch (IndexOutOfBoundsException e) {
            return -99993;
        }
    }

    private static int askOfFalls(LeanCity x, int which) {
        int all = 0;
        switch (which) {
            case 0: return x.falls(0);
            case 1: return x.falls(3);
            case 2: return x.falls(6);
            case 3: return x.rounds(3) + 10 * x.rounds(5);
            case 4: return x.pulls(0);
            case 5: return x.pulls(4);
            case 6: return x.key() + 10 * x.pulls(1);
            case 7: return x.spare();
            case 8: return x.weakest() + 10 * x.falls(4);
            case 9: return x.props(3) + 1000 * x.props(0);
            case 10: return Check.order(x, 0, 5, 0, 1) + 10 * Check.means(x, 0, 1, 5);
            case 11: return Check.order(x, 1, 5, 0, 4) + 10 * Check.means(x, 0, 4, 5);
            case 12: return Check.means(x, 5, 1, 4);
            case 13: return Check.broken(x, false, 2, 27);
            case 14: return Check.broken(x, true, 2, 20);
            case 15: return Check.broken(x, false);
            case 16: return Check.tap(x) + 10 * Check.tap(x, 2, 20);
            case 17: return x.eases();
            case 18: return x.sagging();
            case 19: return x.person(0, 3) + 1000 * x.person(1, 3);
            case 20: return x.house(0, 5) + 1000 * x.house(1, 5);
            case 21: return x.house(2, 8) + 1000 * x.house(0, 8);
            case 22: return x.house(5, 10);
            case 23: return x.house(0, 7) + 1000 * x.house(1, 9);
            case 24: return x.house(1, 12) + 100 * x.house(0, 11);
            case 25: return x.house(2, 6) + 1000 * x.house(0, 2);
            case 26: return x.count(9);
            case 27: return x.count(8) + 1000 * x.count(4) + 10000 * beyond(x);
            case 28:
                for (int what = 0; what < 12; what++) {
                    all = 31 * all + x.count(what);
                }
                return all;
            default:
                for (int p = 0; p < x.count(1); p++) {
                    all = 31 * all + x.person(p, 0) + x.person(p, 2);
                }
                return all;
        }
    }

    private static int askOfLeans(LeanCity x, int which) {
        switch (which) {
            case 30: return x.held(5) + 1000 * x.held(1);
            case 31: return x.ends();
            case 32: return x.apart(0) + 10 * x.apart(1) + 100 * x.apart(5);
            case 33: return x.pieces();
            case 34: return x.gates(LeanCity.NONE);
            case 35: return x.gates(0) + 10 * x.gates(1);
            case 36: return x.swap(0, 1) ? x.falls(3) + 1 : -x.falls(3);
            case 37: return x.rests(0, 2) + 100 * x.person(2, 0);
            case 38: return x.odds(1);
            case 39: return x.odds(4);
            case 40: return x.oldest() + 10 * x.house(0, 3);
            case 41: return x.straight() + 1000 * x.ends();
            case 42: return x.there(3);
            case 43: return x.twins() + 10 * x.count(0);
            case 44: return x.leans();
            case 45: return x.down() + 100 * x.falls(x.count(4));
            case 46: return x.ahead(1);
            case 47: return x.ahead(70);
            case 48: return x.trial(20, false);
            case 49: return x.trial(20, true);
            case 50: return x.span(3, false) + 10 * x.span(3, true);
            case 51: return x.led(5, true) + 100 * x.led(3, false) + 1000 * x.led(2, true);
            case 52: return x.log(0, 2) + 10 * x.log(0, 4) + 1000 * x.log(1, 3);
            case 53: return wrongTexts(x);
            default: return x.part(0, 1) + 10 * x.part(1, 5) + 100 * x.part(5, 0) + 1000 * x.part(0, 2);
        }
    }

    /** How often the first HOUSE and person that there is not were taken for one. */
    private static int beyond(LeanCity x) {
        int taken = 0;
        try {
            x.person(x.count(1), 0);
            taken++;
        } catch (IndexOutOfBoundsException e) {
            taken += 0;
        }
        try {
            Check.broken(x, false, x.count(0), 0);
            taken++;
        } catch (IllegalArgumentException e) {
            taken += 0;
        }
        return taken;
    }

    /** Much is read ahead of what is wrong in them, and nothing of it stays. */
    private static int wrongTexts(LeanCity x) {
        Check.tape(x, "soft 99;firm 99 if house > 0;grow 9;grow 9;grow 100");
        Check.fails("law", IllegalArgumentException.class, x::law);
        int law = x.fault();
        Check.tape(x, "house weight 1 firm 1 age 99;person at 0 hold 9;wander 99;prop 99;evening 6;week 7;lean 5 0 part 9;person at 3 hold 1;no");
        Check.fails("city", IllegalArgumentException.class, x::city);
        return law + 1000 * x.fault();
    }
}
