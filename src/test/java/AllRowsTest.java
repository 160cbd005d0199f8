import java.util.ArrayList;
import java.util.List;

/** All 720 rows, and all 720 rules that can be told, against the Model. */
public final class AllRowsTest {
    private static final int ROWS = 720;
    private static final int ROUNDS = 1865;
    private static final int OTHER_ROW = Integer.parseInt("205134", 6);
    /** Sets of rules from which few, some and all rows can be reached, with ways back and without. */
    private static final int[][][] RULES = {
        {},
        {{0, 1, 2, 3, 4, 5}},
        {{1, 2, 3, 4, 5, 0}},
        {{1, 2, 0, 4, 5, 3}, {0, 1, 2, 3, 4, 5}, {1, 0, 2, 3, 4, 5}},
        {{1, 2, 3, 4, 5, 0}, {1, 0, 2, 3, 4, 5}},
        {{1, 0, 3, 2, 5, 4}, {0, 2, 1, 4, 3, 5}, {0, 1, 3, 2, 5, 4}},
        {{0, 1, 2, 3, 5, 4}, {0, 1, 2, 4, 3, 5}, {0, 1, 3, 2, 4, 5}, {0, 2, 1, 3, 4, 5}, {1, 0, 2, 3, 4, 5}},
        {{1, 2, 0, 3, 4, 5}, {0, 2, 3, 1, 4, 5}, {0, 1, 3, 4, 2, 5}, {0, 1, 2, 4, 5, 3},
            {1, 2, 0, 3, 4, 5}, {2, 0, 1, 3, 4, 5}, {5, 4, 3, 2, 1, 0}, {1, 2, 3, 4, 5, 0}},
    };

    private final ShutterRinging x = new ShutterRinging();
    private final Model model = new Model();

    public static void main(String[] args) {
        List<int[]> rows = rows();
        Check.due("rows", ROWS, rows.size());
        for (int[] row : rows) {
            new AllRowsTest().asRow(row);
            new AllRowsTest().asRule(row);
        }
        for (int[][] rules : RULES) {
            waysToAll(rules, rows, ROUNDS);
            waysToAll(rules, rows, OTHER_ROW);
        }
        Check.end();
    }

    private static List<int[]> rows() {
        List<int[]> rows = new ArrayList<>();
        for (int code = 0; code < 46656; code++) {
            if (Model.isRow(code)) {
                int[] row = new int[6];
                for (int place = 5, rest = code; place >= 0; place--, rest /= 6) {
                    row[place] = rest % 6;
                }
                rows.add(row);
            }
        }
        return rows;
    }

    private static int codeOf(int[] row) {
        int code = 0;
        for (int shutter : row) {
            code = code * 6 + shutter;
        }
        return code;
    }

    private void tell(int... to) {
        Check.due("rule", model.rule(to), x.rule(to[0], to[1], to[2], to[3], to[4], to[5]));
    }

    private void asRow(int[] row) {
        String of = " of the row " + codeOf(row);
        Check.due("set" + of, ROUNDS, x.set(codeOf(row)));
        for (int k = 0; k < 6; k++) {
            Check.due("at" + of, row[k], x.at(k));
            Check.due("find" + of, k, x.find(row[k]));
        }
        model.set(codeOf(row));
        Check.due("count(3)" + of, codeOf(row), x.count(3));
        Check.due("count(4)" + of, model.count(4), x.count(4));
        Check.due("set again" + of, codeOf(row), x.set(codeOf(row)));
    }

    /** The rule, its like, the one that undoes it, and two others. */
    private void asRule(int[] to) {
        int[] back = new int[6];
        for (int place = 0; place < 6; place++) {
            back[to[place]] = place;
        }
        tell(1, 2, 0, 3, 5, 4);
        tell(to);
        tell(to);
        Check.due("about(1, 4) before its undoer", model.about(1, 4), x.about(1, 4));
        tell(back);
        tell(back);
        tell(5, 4, 3, 2, 1, 0);
        String of = " of the rule " + codeOf(to);
        for (int rule = 0; rule < 6; rule++) {
            for (int k = 0; k < 5; k++) {
                Check.due("about(" + rule + ", " + k + ")" + of, model.about(rule, k), x.about(rule, k));
            }
            Check.due("swaps(1, " + rule + ")" + of, model.swaps(1, rule), x.swaps(1, rule));
            Check.due("swaps(" + rule + ", 1)" + of, model.swaps(rule, 1), x.swaps(rule, 1));
        }
        model.set(OTHER_ROW);
        x.set(OTHER_ROW);
        Check.due("ring" + of, model.ring(1), x.ring(1));
        Check.due("ring again" + of, model.ring(1), x.ring(1));
        Check.due("undo" + of, model.undo(1), x.undo(1));
        Check.due("undo again" + of, model.undo(1), x.undo(1));
        Check.due("as before" + of, OTHER_ROW, x.count(3));
        Check.due("undo the other way" + of, model.undo(3), x.undo(3));
        Check.due("digest" + of, model.digest(), x.digest());
    }

    /** An object answers for 200 rows: 400 calls and its making. */
    private static void waysToAll(int[][] rules, List<int[]> rows, int from) {
        AllRowsTest pair = null;
        for (int k = 0; k < rows.size(); k++) {
            if (k % 200 == 0) {
                pair = new AllRowsTest();
                for (int[] to : rules) {
                    pair.tell(to);
                }
                pair.model.set(from);
                pair.x.set(from);
                Check.due("reach", pair.model.reach(), pair.x.reach());
                Check.due("farthest", pair.model.farthest(), pair.x.farthest());
                Check.due("mean", pair.model.mean(), pair.x.mean());
            }
            int code = codeOf(rows.get(k));
            String of = "(" + code + ") of " + rules.length + " rules from " + from;
            Check.due("steps" + of, pair.model.steps(code), pair.x.steps(code));
            Check.due("next" + of, pair.model.next(code), pair.x.next(code));
        }
    }
}
