/** Promises 6 to 10: ring, undo, at, find, set. */
public final class RowTest {
    private static final int[] WRONG_NUMBERS = {-1, 6, 7, Integer.MIN_VALUE, Integer.MAX_VALUE};
    private static final int[] WRONG_CODES = {-1, 0, 1864, 1866, 44789, 44791, 46655, 46656, 46656 + 1865,
        -1865, Integer.MIN_VALUE, Integer.MAX_VALUE, 1865 + 5 * 7776};

    public static void main(String[] args) {
        ringAndUndo();
        ringWrong();
        at();
        find();
        set();
        setEachCode();
        Check.end();
    }

    private static int code(String shutters) {
        return Integer.parseInt(shutters, 6);
    }

    private static ShutterRinging withRules() {
        ShutterRinging x = new ShutterRinging();
        x.rule(1, 2, 3, 4, 5, 0);
        x.rule(1, 2, 0, 3, 5, 4);
        return x;
    }

    private static void ringAndUndo() {
        ShutterRinging x = withRules();
        Check.due("ring(0)", code("501234"), x.ring(0));
        Check.due("ring(1)", code("150243"), x.ring(1));
        Check.due("at(0)", 1, x.at(0));
        Check.due("undo(0)", code("502431"), x.undo(0));
        Check.due("undo(1)", code("025413"), x.undo(1));
        Check.due("count(2)", 4, x.count(2));
        Check.due("count(3)", code("025413"), x.count(3));
        Check.due("ring and undo", code("025413"), ringThenUndo(x, 1));
        Check.due("count(2) then", 6, x.count(2));
    }

    private static int ringThenUndo(ShutterRinging x, int rule) {
        x.ring(rule);
        return x.undo(rule);
    }

    private static void ringWrong() {
        ShutterRinging x = withRules();
        x.ring(1);
        for (int wrong : new int[] {-1, 2, 7, 8, Integer.MIN_VALUE, Integer.MAX_VALUE}) {
            Check.refused(x, "ring(" + wrong + ")", Check.INDEX, () -> x.ring(wrong));
            Check.refused(x, "undo(" + wrong + ")", Check.INDEX, () -> x.undo(wrong));
        }
    }

    private static void at() {
        ShutterRinging x = withRules();
        x.ring(0);
        x.ring(1);
        int[] due = {1, 5, 0, 2, 4, 3};
        for (int place = 0; place < 6; place++) {
            Check.due("at(" + place + ")", due[place], x.at(place));
        }
        for (int wrong : WRONG_NUMBERS) {
            Check.refused(x, "at(" + wrong + ")", Check.INDEX, () -> x.at(wrong));
        }
    }

    private static void find() {
        ShutterRinging x = withRules();
        x.ring(0);
        x.ring(1);
        int[] due = {2, 0, 3, 5, 4, 1};
        for (int shutter = 0; shutter < 6; shutter++) {
            Check.due("find(" + shutter + ")", due[shutter], x.find(shutter));
        }
        for (int wrong : WRONG_NUMBERS) {
            Check.refused(x, "find(" + wrong + ")", Check.INDEX, () -> x.find(wrong));
        }
    }

    private static void set() {
        ShutterRinging x = withRules();
        Check.due("set from rounds", 1865, x.set(code("543210")));
        Check.due("set again", 44790, x.set(code("031542")));
        Check.due("count(3)", code("031542"), x.count(3));
        Check.due("set is no change", 0, x.count(2));
        Check.due("at(5)", 2, x.at(5));
        Check.due("find(5)", 3, x.find(5));
        Check.due("ring then", code("203154"), x.ring(0));
        for (int wrong : WRONG_CODES) {
            Check.refused(x, "set(" + wrong + ")", Check.ARGUMENT, () -> x.set(wrong));
        }
    }

    /** Of all numbers with six digits of the base 6, only those with each digit once are rows. */
    private static void setEachCode() {
        ShutterRinging x = null;
        int before = 0;
        int calls = 512;
        int rows = 0;
        for (int code = -10; code < 46670; code++) {
            if (calls > 500) {
                x = new ShutterRinging();
                before = 1865;
                calls = 0;
            }
            ShutterRinging used = x;
            int asked = code;
            boolean isRow = isRow(code);
            Object want = isRow ? (Object) before : "throws " + Check.ARGUMENT;
            Check.due("set(" + code + ")", want, () -> used.set(asked));
            calls++;
            if (isRow) {
                before = code;
                rows++;
            }
        }
        Check.due("rows", 720, rows);
    }

    private static boolean isRow(int code) {
        if (code < 0) {
            return false;
        }
        StringBuilder digits = new StringBuilder(Integer.toString(code, 6));
        while (digits.length() < 6) {
            digits.insert(0, '0');
        }
        return digits.length() == 6 && digits.chars().distinct().count() == 6;
    }
}
