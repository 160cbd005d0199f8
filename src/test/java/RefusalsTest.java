import java.util.ArrayList;
import java.util.List;

/**
 * "A method that throws an exception changes nothing. If several exceptions apply, the one that is named first is
 * thrown." Each wrong call is made on one of two like objects; then both have to live on alike.
 */
public final class RefusalsTest {
    private static final String[] SOME_ROWS = {"012345", "543210", "501234", "205314", "025134", "415203"};

    private final String name;
    private final int rules;
    private final int peals;
    private final int rulesOfEachPeal;

    /** A call that has to be refused. */
    private interface Wrong {
        Object on(ShutterRinging x);
    }

    private RefusalsTest(String name, int rules, int peals, int rulesOfEachPeal) {
        this.name = name;
        this.rules = rules;
        this.peals = peals;
        this.rulesOfEachPeal = rulesOfEachPeal;
    }

    public static void main(String[] args) {
        RefusalsTest[] states = {
            new RefusalsTest("new: ", 0, 0, 0),
            new RefusalsTest("with rules: ", 3, 0, 0),
            new RefusalsTest("with a peal: ", 0, 1, 0),
            new RefusalsTest("begun: ", 3, 2, 5),
            new RefusalsTest("nearly full: ", 7, 5, 29),
            new RefusalsTest("full: ", 8, 6, 30),
        };
        for (RefusalsTest state : states) {
            state.wrongRules();
            state.wrongRuleNumbers();
            state.wrongPealNumbers();
            state.wrongPlacesAndShutters();
            state.wrongKinds();
            state.wrongCodes();
        }
        states[5].nothingMore();
        states[5].namedFirst();
        Check.end();
    }

    private static int code(String shutters) {
        return Integer.parseInt(shutters, 6);
    }

    private ShutterRinging made() {
        ShutterRinging x = new ShutterRinging();
        for (int rule = 0; rule < rules; rule++) {
            int k = rule % 6;
            x.rule(k, (k + 2) % 6, (k + 1) % 6, (k + 3) % 6, (k + 5) % 6, (k + 4) % 6);
        }
        for (int peal = 0; peal < peals; peal++) {
            x.peal();
            for (int k = 0; k < rulesOfEachPeal; k++) {
                x.add(peal, (k * k + peal) % rules);
            }
        }
        x.set(code("205134"));
        if (rules > 1) {
            x.ring(1);
        }
        return x;
    }

    /** What the object tells, and what it answers then, as long as it is not at its 512th call. */
    private static List<Object> life(ShutterRinging x) {
        List<Object> told = new ArrayList<>();
        told.add(x.digest());
        told.add(x.reach());
        told.add(x.farthest());
        told.add(x.mean());
        for (int k = 0; k < 6; k++) {
            told.add(x.at(k));
            told.add(x.find(k));
            told.add(x.steps(code(SOME_ROWS[k])));
            told.add(x.next(code(SOME_ROWS[k])));
        }
        told.add(Check.outcome(() -> x.rule(1, 0, 2, 3, 4, 5)));
        told.add(Check.outcome(x::peal));
        told.add(Check.outcome(() -> x.about(7, 4)));
        for (int k = 0; k < 8; k++) {
            int number = k;
            told.add(Check.outcome(() -> x.ring(number)));
            told.add(Check.outcome(() -> x.swaps(0, number)));
            told.add(Check.outcome(() -> x.add(number, 0)));
            told.add(Check.outcome(() -> x.add(number, 7)));
            told.add(Check.outcome(() -> x.play(number)));
        }
        told.add(x.reach());
        told.add(x.digest());
        return told;
    }

    private void refused(String call, String exception, Wrong wrong) {
        ShutterRinging untouched = made();
        ShutterRinging touched = made();
        Check.due(name + call, "throws " + exception, () -> wrong.on(touched));
        Check.due(name + call + " again", "throws " + exception, () -> wrong.on(touched));
        List<Object> due = life(untouched);
        List<Object> told = life(touched);
        for (int k = 0; k < due.size(); k++) {
            Check.due(name + "answer " + k + " after " + call, due.get(k), told.get(k));
        }
    }

    /** Numbers below 0 and from the bound on; 32 and 256 more are the same, if a shift or a byte forgets the rest. */
    private static int[] beyond(int bound) {
        return new int[] {-1, bound, bound + 1, 30, 32, 256, -32, Integer.MIN_VALUE, Integer.MAX_VALUE};
    }

    private void wrongRules() {
        for (int k = 0; k < 6; k++) {
            for (int wrong : beyond(6)) {
                wrongRule(k, wrong);
            }
            wrongRule(k, 32 + k);
            for (int other = 0; other < 6; other++) {
                if (other != k) {
                    wrongRule(k, other);
                }
            }
        }
        refused("rule with all the same", Check.ARGUMENT, x -> x.rule(0, 0, 0, 0, 0, 0));
    }

    private void wrongRule(int place, int wrong) {
        int[] p = {0, 1, 2, 3, 4, 5};
        p[place] = wrong;
        refused("rule with " + wrong + " for the place " + place, Check.ARGUMENT,
                x -> x.rule(p[0], p[1], p[2], p[3], p[4], p[5]));
    }

    private void wrongRuleNumbers() {
        for (int wrong : beyond(rules)) {
            String in = "(.. rule " + wrong + " ..)";
            refused("goes" + in, Check.INDEX, x -> x.goes(wrong, 0));
            refused("swaps" + in, Check.INDEX, x -> x.swaps(wrong, 0));
            refused("swaps, second," + in, Check.INDEX, x -> x.swaps(0, wrong));
            refused("swaps, both," + in, Check.INDEX, x -> x.swaps(wrong, wrong));
            refused("ring" + in, Check.INDEX, x -> x.ring(wrong));
            refused("undo" + in, Check.INDEX, x -> x.undo(wrong));
            refused("add" + in, Check.INDEX, x -> x.add(0, wrong));
            for (int what = 0; what < 5; what++) {
                int asked = what;
                refused("about" + in + what, Check.INDEX, x -> x.about(wrong, asked));
            }
        }
    }

    private void wrongPealNumbers() {
        for (int wrong : beyond(peals)) {
            String in = "(peal " + wrong + " ..)";
            refused("add" + in, Check.INDEX, x -> x.add(wrong, 0));
            refused("add, both," + in, Check.INDEX, x -> x.add(wrong, rules));
            refused("play" + in, Check.INDEX, x -> x.play(wrong));
            for (int what = 0; what < 5; what++) {
                int asked = what;
                refused("told" + in + what, Check.INDEX, x -> x.told(wrong, asked));
            }
        }
    }

    private void wrongPlacesAndShutters() {
        for (int wrong : beyond(6)) {
            refused("at(" + wrong + ")", Check.INDEX, x -> x.at(wrong));
            refused("find(" + wrong + ")", Check.INDEX, x -> x.find(wrong));
            refused("goes(0, " + wrong + ")", Check.INDEX, x -> x.goes(0, wrong));
            refused("goes of no rule from " + wrong, Check.INDEX, x -> x.goes(rules, wrong));
        }
    }

    private void wrongKinds() {
        for (int wrong : beyond(5)) {
            refused("about(0, " + wrong + ")", Check.INDEX, x -> x.about(0, wrong));
            refused("about of no rule " + wrong, Check.INDEX, x -> x.about(rules, wrong));
            refused("told(0, " + wrong + ")", Check.INDEX, x -> x.told(0, wrong));
            refused("told of no peal " + wrong, Check.INDEX, x -> x.told(peals, wrong));
            refused("count(" + wrong + ")", Check.INDEX, x -> x.count(wrong));
        }
    }

    /** Below rounds, above 543210, a digit twice, a seventh digit, and rows but for their sign or higher bits. */
    private void wrongCodes() {
        int[] wrongs = {-1, 0, 1, 5, 1864, 1866, 1871, 2115, 44789, 44791, 46655, 46656, 46656 + 1865, 6 * 44790,
            -1865, -44790, 65536 + 1865, Integer.MIN_VALUE, Integer.MIN_VALUE + 1865, Integer.MAX_VALUE};
        for (int wrong : wrongs) {
            refused("set(" + wrong + ")", Check.ARGUMENT, x -> x.set(wrong));
            refused("steps(" + wrong + ")", Check.ARGUMENT, x -> x.steps(wrong));
            refused("next(" + wrong + ")", Check.ARGUMENT, x -> x.next(wrong));
        }
    }

    private void nothingMore() {
        refused("a ninth rule", Check.STATE, x -> x.rule(1, 0, 2, 3, 4, 5));
        refused("a ninth rule that moves none", Check.STATE, x -> x.rule(0, 1, 2, 3, 4, 5));
        refused("a ninth rule like the first", Check.STATE, x -> x.rule(0, 2, 1, 3, 5, 4));
        refused("a seventh peal", Check.STATE, ShutterRinging::peal);
        for (int peal = 0; peal < 6; peal++) {
            int full = peal;
            refused("a rule more for the peal " + peal, Check.STATE, x -> x.add(full, 0));
            refused("another rule more for the peal " + peal, Check.STATE, x -> x.add(full, 7));
        }
    }

    /** Eight rules and a wrong place; a full peal and a wrong rule. The loops above tell it of the full object, too. */
    private void namedFirst() {
        refused("a ninth rule with 6", Check.ARGUMENT, x -> x.rule(0, 1, 2, 3, 4, 6));
        refused("a ninth rule with 0 twice", Check.ARGUMENT, x -> x.rule(0, 1, 2, 3, 4, 0));
        refused("a wrong rule for a full peal", Check.INDEX, x -> x.add(0, 8));
        refused("a rule for no peal", Check.INDEX, x -> x.add(6, 0));
        refused("a wrong rule for no peal", Check.INDEX, x -> x.add(6, 8));
    }
}
