/** Promises 11 to 15: peal, add, play, told, count. */
public final class PealsTest {
    private static final int[] WRONG_WHATS = {-1, 5, 6, Integer.MIN_VALUE, Integer.MAX_VALUE};

    public static void main(String[] args) {
        pealNumbers();
        add();
        addWrong();
        fullPeal();
        play();
        emptyPeal();
        toldLeadsTo();
        toldTrue();
        toldOrderAndRows();
        toldWrong();
        count();
        Check.end();
    }

    private static int code(String shutters) {
        return Integer.parseInt(shutters, 6);
    }

    /** Rule 0 turns all places, 1 swaps the first two, 2 moves none, 3 swaps each pair, 4 the pairs between. */
    private static ShutterRinging withRules() {
        ShutterRinging x = new ShutterRinging();
        x.rule(1, 2, 3, 4, 5, 0);
        x.rule(1, 0, 2, 3, 4, 5);
        x.rule(0, 1, 2, 3, 4, 5);
        x.rule(1, 0, 3, 2, 5, 4);
        x.rule(0, 2, 1, 4, 3, 5);
        return x;
    }

    private static int pealOf(ShutterRinging x, int... rules) {
        int peal = x.peal();
        for (int rule : rules) {
            x.add(peal, rule);
        }
        return peal;
    }

    private static void pealNumbers() {
        ShutterRinging x = new ShutterRinging();
        for (int k = 0; k < 6; k++) {
            Check.due("peal()", k, x.peal());
            Check.due("count(1)", k + 1, x.count(1));
            Check.due("told(" + k + ", 0)", 0, x.told(k, 0));
        }
        Check.refused(x, "a seventh peal", Check.STATE, x::peal);
        Check.refused(x, "a seventh peal again", Check.STATE, x::peal);
    }

    private static void add() {
        ShutterRinging x = withRules();
        x.peal();
        x.peal();
        Check.due("add(0, 4)", 1, x.add(0, 4));
        Check.due("add(0, 4) again", 2, x.add(0, 4));
        Check.due("add(1, 0)", 1, x.add(1, 0));
        Check.due("add(0, 0)", 3, x.add(0, 0));
        Check.due("told(0, 0)", 3, x.told(0, 0));
        Check.due("told(1, 0)", 1, x.told(1, 0));
        Check.due("adding rings nothing", 0, x.count(2));
        Check.due("adding keeps the row", 1865, x.count(3));
        Check.due("behind all others", code("501234"), x.told(0, 1));
    }

    private static void addWrong() {
        ShutterRinging x = withRules();
        x.peal();
        for (int wrong : new int[] {-1, 1, 6, Integer.MIN_VALUE, Integer.MAX_VALUE}) {
            Check.refused(x, "add(" + wrong + ", 0)", Check.INDEX, () -> x.add(wrong, 0));
        }
        for (int wrong : new int[] {-1, 5, 8, Integer.MIN_VALUE, Integer.MAX_VALUE}) {
            Check.refused(x, "add(0, " + wrong + ")", Check.INDEX, () -> x.add(0, wrong));
        }
    }

    private static void fullPeal() {
        ShutterRinging x = withRules();
        x.peal();
        x.peal();
        for (int k = 1; k <= 30; k++) {
            Check.due("add", k, x.add(0, k % 5));
        }
        Check.refused(x, "a thirty-first rule", Check.STATE, () -> x.add(0, 0));
        Check.refused(x, "a thirty-first wrong rule", Check.INDEX, () -> x.add(0, 5));
        Check.refused(x, "a wrong peal beside a full one", Check.INDEX, () -> x.add(2, 0));
        Check.due("the other peal", 1, x.add(1, 0));
        Check.due("told(0, 0)", 30, x.told(0, 0));
        x.play(0);
        Check.due("count(2)", 30, x.count(2));
        Check.due("the row is where the peal leads", x.told(0, 1), x.count(3));
    }

    private static void play() {
        ShutterRinging x = withRules();
        pealOf(x, 0, 1, 0);
        Check.due("play(0)", code("405123"), x.play(0));
        Check.due("count(2)", 3, x.count(2));
        Check.due("play(0) again", code("243051"), x.play(0));
        Check.due("count(2) again", 6, x.count(2));
        Check.due("count(3)", code("243051"), x.count(3));
        Check.due("told from rounds still", code("405123"), x.told(0, 1));
        for (int wrong : new int[] {-1, 1, 6, Integer.MIN_VALUE, Integer.MAX_VALUE}) {
            Check.refused(x, "play(" + wrong + ")", Check.INDEX, () -> x.play(wrong));
        }
    }

    private static void emptyPeal() {
        ShutterRinging x = withRules();
        x.ring(1);
        x.peal();
        Check.due("play(0)", code("102345"), x.play(0));
        Check.due("count(2)", 1, x.count(2));
        int[] due = {0, 1865, 1, 1, 1};
        for (int what = 0; what < 5; what++) {
            Check.due("empty: told(0, " + what + ")", due[what], x.told(0, what));
        }
    }

    private static void toldLeadsTo() {
        ShutterRinging x = withRules();
        x.set(44790);
        pealOf(x, 0, 1);
        pealOf(x, 1, 0);
        Check.due("told(0, 1)", code("051234"), x.told(0, 1));
        Check.due("told(1, 1)", code("510234"), x.told(1, 1));
        Check.due("the row stays", 44790, x.count(3));
        Check.due("no change", 0, x.count(2));
    }

    private static void toldTrue() {
        ShutterRinging x = withRules();
        x.set(44790);
        Check.due("comes home at the end", 1, x.told(pealOf(x, 1, 1), 2));
        Check.due("one rule that moves none", 1, x.told(pealOf(x, 2), 2));
        Check.due("home before the end", 0, x.told(pealOf(x, 1, 1, 0), 2));
        Check.due("the last one is an inner row", 0, x.told(pealOf(x, 0, 1, 1), 2));
        Check.due("moves none and home twice", 0, x.told(pealOf(x, 2, 2), 2));
        int plain = pealOf(x, 3, 4, 3, 4, 3, 4, 3, 4, 3, 4, 3, 4);
        Check.due("the plain hunt", 1, x.told(plain, 2));
        x.add(plain, 3);
        Check.due("the plain hunt and one more", 0, x.told(plain, 2));
    }

    private static void toldOrderAndRows() {
        ShutterRinging x = withRules();
        x.ring(0);
        int peal = pealOf(x, 0);
        check(x, peal, 6, 6);
        x.add(peal, 1);
        check(x, peal, 5, 10);
        peal = pealOf(x, 3, 4);
        check(x, peal, 6, 12);
        peal = pealOf(x, 2, 2, 2);
        check(x, peal, 1, 1);
        peal = pealOf(x, 1, 1);
        check(x, peal, 1, 2);
        peal = pealOf(x, 1, 2, 1, 1);
        check(x, peal, 2, 2);
        Check.due("the row stays", code("501234"), x.count(3));
        Check.due("no change", 1, x.count(2));
    }

    private static void check(ShutterRinging x, int peal, int order, int rows) {
        Check.due("told(" + peal + ", 3)", order, x.told(peal, 3));
        Check.due("told(" + peal + ", 4)", rows, x.told(peal, 4));
    }

    private static void toldWrong() {
        ShutterRinging x = withRules();
        pealOf(x, 0, 1);
        for (int wrong : WRONG_WHATS) {
            Check.refused(x, "told(0, " + wrong + ")", Check.INDEX, () -> x.told(0, wrong));
        }
        for (int wrong : new int[] {-1, 1, 6, Integer.MIN_VALUE, Integer.MAX_VALUE}) {
            for (int what = 0; what < 5; what++) {
                int asked = what;
                Check.refused(x, "told(" + wrong + ", " + what + ")", Check.INDEX, () -> x.told(wrong, asked));
            }
        }
    }

    private static void count() {
        ShutterRinging x = withRules();
        pealOf(x, 0, 1, 2, 3);
        x.peal();
        x.ring(0);
        x.undo(1);
        x.ring(2);
        x.play(0);
        Check.due("count(0)", 5, x.count(0));
        Check.due("count(1)", 2, x.count(1));
        Check.due("count(2)", 7, x.count(2));
        String[] rows = {"012345", "102345", "120345", "543210", "321045", "501234", "512340"};
        int[] odd = {0, 1, 0, 1, 0, 1, 1};
        for (int k = 0; k < rows.length; k++) {
            x.set(code(rows[k]));
            Check.due("count(3) of " + rows[k], code(rows[k]), x.count(3));
            Check.due("count(4) of " + rows[k], odd[k], x.count(4));
        }
        for (int wrong : WRONG_WHATS) {
            Check.refused(x, "count(" + wrong + ")", Check.INDEX, () -> x.count(wrong));
        }
    }
}
