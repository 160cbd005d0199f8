/** Promises 1 to 5: a new object, rule, goes, about, swaps. */
public final class RulesTest {
    private static final int[] WRONG_WHATS = {-1, 5, 6, Integer.MIN_VALUE, Integer.MAX_VALUE};
    private static final int[] WRONG_PLACES = {-1, 6, 7, Integer.MIN_VALUE, Integer.MAX_VALUE};

    public static void main(String[] args) {
        aNewObject();
        ruleNumbers();
        wrongRules();
        tooManyRules();
        goes();
        aboutOrders();
        aboutPlacesLeft();
        aboutOddness();
        aboutGroups();
        aboutUndoers();
        aboutWrong();
        swaps();
        Check.end();
    }

    private static int tell(ShutterRinging x, String places) {
        return x.rule(places.charAt(0) - '0', places.charAt(1) - '0', places.charAt(2) - '0',
                places.charAt(3) - '0', places.charAt(4) - '0', places.charAt(5) - '0');
    }

    private static void aNewObject() {
        ShutterRinging x = new ShutterRinging();
        for (int k = 0; k < 6; k++) {
            Check.due("new: at " + k, k, x.at(k));
            Check.due("new: find " + k, k, x.find(k));
        }
        int[] counts = {0, 0, 0, 1865, 0};
        for (int what = 0; what < 5; what++) {
            Check.due("new: count " + what, counts[what], x.count(what));
        }
        Check.due("new: reach", 1, x.reach());
        Check.due("new: farthest", 0, x.farthest());
        Check.due("new: mean", 0.0, x.mean());
        Check.due("new: steps to rounds", 0, x.steps(1865));
        Check.due("new: no other row", -1, x.steps(44790));
        Check.refused(x, "new: goes(0, 0)", Check.INDEX, () -> x.goes(0, 0));
        Check.refused(x, "new: told(0, 0)", Check.INDEX, () -> x.told(0, 0));
    }

    private static void ruleNumbers() {
        ShutterRinging x = new ShutterRinging();
        for (int k = 0; k < 8; k++) {
            Check.due("the same rule again", k, tell(x, "120354"));
            Check.due("count(0)", k + 1, x.count(0));
        }
        Check.due("telling rings nothing", 0, x.count(2));
        Check.due("telling keeps rounds", 1865, x.count(3));
    }

    private static void wrongRules() {
        ShutterRinging x = new ShutterRinging();
        tell(x, "102345");
        for (int k = 0; k < 6; k++) {
            for (int wrong : WRONG_PLACES) {
                int[] p = {0, 1, 2, 3, 4, 5};
                p[k] = wrong;
                Check.refused(x, "rule with " + wrong + " at " + k, Check.ARGUMENT,
                        () -> x.rule(p[0], p[1], p[2], p[3], p[4], p[5]));
            }
            for (int other = 0; other < 6; other++) {
                if (other != k) {
                    int[] p = {0, 1, 2, 3, 4, 5};
                    p[k] = other;
                    Check.refused(x, "rule with " + other + " twice", Check.ARGUMENT,
                            () -> x.rule(p[0], p[1], p[2], p[3], p[4], p[5]));
                }
            }
        }
        // 32 and 37 are the places 0 and 5, if a shift forgets its higher bits.
        Check.refused(x, "rule with 32", Check.ARGUMENT, () -> x.rule(32, 1, 2, 3, 4, 5));
        Check.refused(x, "rule with 37", Check.ARGUMENT, () -> x.rule(0, 1, 2, 3, 4, 37));
        Check.due("the next number", 1, tell(x, "543210"));
    }

    private static void tooManyRules() {
        ShutterRinging x = new ShutterRinging();
        for (int k = 0; k < 8; k++) {
            tell(x, "102345");
        }
        Check.refused(x, "a ninth rule", Check.STATE, () -> tell(x, "012354"));
        Check.refused(x, "a ninth wrong rule", Check.ARGUMENT, () -> tell(x, "002354"));
        Check.refused(x, "a ninth rule with 6", Check.ARGUMENT, () -> tell(x, "612354"));
    }

    private static void goes() {
        ShutterRinging x = new ShutterRinging();
        tell(x, "120354");
        tell(x, "543210");
        int[] first = {1, 2, 0, 3, 5, 4};
        for (int place = 0; place < 6; place++) {
            Check.due("goes(0, " + place + ")", first[place], x.goes(0, place));
            Check.due("goes(1, " + place + ")", 5 - place, x.goes(1, place));
        }
        for (int wrong : WRONG_PLACES) {
            Check.refused(x, "goes(0, " + wrong + ")", Check.INDEX, () -> x.goes(0, wrong));
        }
        for (int wrong : new int[] {-1, 2, 8, Integer.MIN_VALUE, Integer.MAX_VALUE}) {
            Check.refused(x, "goes(" + wrong + ", 0)", Check.INDEX, () -> x.goes(wrong, 0));
        }
    }

    /** Tells each rule to an object of its own and compares what about() says of it. */
    private static void aboutEach(int what, String[] rules, int[] due) {
        for (int k = 0; k < rules.length; k++) {
            ShutterRinging x = new ShutterRinging();
            tell(x, rules[k]);
            Check.due("about(" + rules[k] + ", " + what + ")", due[k], x.about(0, what));
        }
    }

    private static void aboutOrders() {
        aboutEach(0, new String[] {"012345", "102345", "120345", "123045", "123405", "123450", "120354", "103254"},
                new int[] {1, 2, 3, 4, 5, 6, 6, 2});
        aboutEach(0, new String[] {"123054", "120453"}, new int[] {4, 3});
    }

    private static void aboutPlacesLeft() {
        aboutEach(1, new String[] {"012345", "102345", "120345", "123045", "123405", "123450"},
                new int[] {6, 4, 3, 2, 1, 0});
    }

    private static void aboutOddness() {
        aboutEach(2, new String[] {"012345", "102345", "120345", "123045", "123405", "123450", "543210", "103245"},
                new int[] {0, 1, 0, 1, 0, 1, 1, 0});
        aboutEach(2, new String[] {"152340", "453201"}, new int[] {0, 1});
    }

    private static void aboutGroups() {
        aboutEach(3, new String[] {"012345", "102345", "120345", "123045", "123405", "123450", "543210", "120453"},
                new int[] {6, 5, 4, 3, 2, 1, 3, 2});
        aboutEach(3, new String[] {"512340", "345012", "501234"}, new int[] {5, 3, 1});
    }

    private static void aboutUndoers() {
        ShutterRinging x = new ShutterRinging();
        tell(x, "123450");
        Check.due("without an undoer", -1, x.about(0, 4));
        tell(x, "120345");
        tell(x, "501234");
        tell(x, "501234");
        tell(x, "543210");
        tell(x, "543210");
        Check.due("the undoer with the smallest number", 2, x.about(0, 4));
        Check.due("still without one", -1, x.about(1, 4));
        Check.due("an earlier rule undoes", 0, x.about(2, 4));
        Check.due("an earlier rule undoes again", 0, x.about(3, 4));
        Check.due("itself", 4, x.about(4, 4));
        Check.due("an earlier one like it", 4, x.about(5, 4));
        tell(x, "012345");
        Check.due("the rule that moves none", 6, x.about(6, 4));
    }

    private static void aboutWrong() {
        ShutterRinging x = new ShutterRinging();
        tell(x, "120354");
        for (int wrong : WRONG_WHATS) {
            Check.refused(x, "about(0, " + wrong + ")", Check.INDEX, () -> x.about(0, wrong));
        }
        for (int wrong : new int[] {-1, 1, 8, Integer.MIN_VALUE, Integer.MAX_VALUE}) {
            for (int what = 0; what < 5; what++) {
                int asked = what;
                Check.refused(x, "about(" + wrong + ", " + what + ")", Check.INDEX, () -> x.about(wrong, asked));
            }
        }
    }

    private static void swaps() {
        ShutterRinging x = new ShutterRinging();
        tell(x, "102345");
        tell(x, "013245");
        tell(x, "021345");
        tell(x, "012354");
        tell(x, "123450");
        tell(x, "234501");
        boolean[][] due = {
            {true, true, false, true, false, false},
            {true, true, false, true, false, false},
            {false, false, true, true, false, false},
            {true, true, true, true, false, false},
            {false, false, false, false, true, true},
            {false, false, false, false, true, true},
        };
        for (int a = 0; a < 6; a++) {
            for (int b = 0; b < 6; b++) {
                Check.due("swaps(" + a + ", " + b + ")", due[a][b], x.swaps(a, b));
            }
        }
        for (int wrong : new int[] {-1, 6, 8, Integer.MIN_VALUE, Integer.MAX_VALUE}) {
            Check.refused(x, "swaps(" + wrong + ", 0)", Check.INDEX, () -> x.swaps(wrong, 0));
            Check.refused(x, "swaps(0, " + wrong + ")", Check.INDEX, () -> x.swaps(0, wrong));
        }
    }
}
