/** Promises 16 to 21: steps, next, reach, farthest, mean, digest. */
public final class WaysTest {
    private static final int[] WRONG_CODES = {-1, 0, 1864, 1866, 46655, 46656, 46656 + 1865,
        Integer.MIN_VALUE, Integer.MAX_VALUE};

    public static void main(String[] args) {
        withoutRules();
        oneWay();
        smallestFirstRule();
        aRuleThatMovesNone();
        fromAnotherRow();
        laterRules();
        allRows();
        wrongCodes();
        digestOfANewObject();
        digestOfAll();
        Check.end();
    }

    private static int code(String shutters) {
        return Integer.parseInt(shutters, 6);
    }

    private static void withoutRules() {
        ShutterRinging x = new ShutterRinging();
        x.set(44790);
        Check.due("steps to itself", 0, x.steps(44790));
        Check.due("next to itself", -1, x.next(44790));
        Check.due("steps to rounds", -1, x.steps(1865));
        Check.due("next to rounds", -1, x.next(1865));
        Check.due("reach", 1, x.reach());
        Check.due("farthest", 0, x.farthest());
        Check.due("mean", 0.0, x.mean());
    }

    /** None is undone: the row one turn back is five turns away. */
    private static void oneWay() {
        ShutterRinging x = new ShutterRinging();
        x.rule(1, 2, 3, 4, 5, 0);
        Check.due("one turn", 1, x.steps(code("501234")));
        Check.due("five turns", 5, x.steps(code("123450")));
        Check.due("next", 0, x.next(code("123450")));
        Check.due("no way", -1, x.steps(code("102345")));
        Check.due("no first rule", -1, x.next(code("102345")));
        Check.due("reach", 6, x.reach());
        Check.due("farthest", 5, x.farthest());
        Check.due("mean", 2.5, x.mean());
        Check.due("nothing was rung", 0, x.count(2));
        Check.due("the row stays", 1865, x.count(3));
    }

    private static void smallestFirstRule() {
        ShutterRinging x = new ShutterRinging();
        x.rule(0, 1, 2, 3, 5, 4);
        x.rule(1, 0, 2, 3, 4, 5);
        x.rule(1, 0, 2, 3, 4, 5);
        x.rule(0, 1, 3, 2, 4, 5);
        Check.due("either order", 0, x.next(code("102354")));
        Check.due("the same rule twice told", 1, x.next(code("102345")));
        Check.due("1 before 3", 1, x.next(code("103245")));
        Check.due("only 3", 3, x.next(code("013245")));
        Check.due("all three", 0, x.next(code("103254")));
        Check.due("all three in steps", 3, x.steps(code("103254")));
        Check.due("reach", 8, x.reach());
        Check.due("farthest", 3, x.farthest());
        Check.due("mean", 1.5, x.mean());
    }

    private static void aRuleThatMovesNone() {
        ShutterRinging x = new ShutterRinging();
        x.rule(0, 1, 2, 3, 4, 5);
        Check.due("reach", 1, x.reach());
        Check.due("steps", 0, x.steps(1865));
        Check.due("next", -1, x.next(1865));
        x.rule(1, 2, 0, 3, 4, 5);
        Check.due("reach with another", 3, x.reach());
        Check.due("mean", 1.0, x.mean());
        Check.due("next with another", 1, x.next(code("120345")));
    }

    private static void fromAnotherRow() {
        ShutterRinging x = new ShutterRinging();
        x.rule(1, 0, 2, 3, 4, 5);
        x.rule(0, 2, 1, 3, 4, 5);
        x.set(code("345120"));
        Check.due("the first pair", 1, x.steps(code("435120")));
        Check.due("its rule", 0, x.next(code("435120")));
        Check.due("the second pair", 1, x.next(code("354120")));
        Check.due("both", 2, x.steps(code("453120")));
        Check.due("both begin with", 0, x.next(code("453120")));
        Check.due("the other order", 1, x.next(code("534120")));
        Check.due("turned round", 3, x.steps(code("543120")));
        Check.due("turned round begins with", 0, x.next(code("543120")));
        Check.due("itself", 0, x.steps(code("345120")));
        Check.due("rounds", -1, x.steps(1865));
        Check.due("reach", 6, x.reach());
        Check.due("farthest", 3, x.farthest());
        Check.due("mean", 9.0 / 6.0, x.mean());
    }

    /** What was told before a rule is told anew after it. */
    private static void laterRules() {
        ShutterRinging x = new ShutterRinging();
        x.rule(1, 2, 3, 4, 5, 0);
        Check.due("before", 5, x.steps(code("123450")));
        x.rule(5, 0, 1, 2, 3, 4);
        Check.due("after", 1, x.steps(code("123450")));
        Check.due("its rule", 1, x.next(code("123450")));
        Check.due("either way round", 0, x.next(code("345012")));
        Check.due("farthest", 3, x.farthest());
        Check.due("mean", 1.5, x.mean());
        x.ring(0);
        Check.due("back", 1, x.steps(1865));
        Check.due("back by", 1, x.next(1865));
    }

    private static void allRows() {
        ShutterRinging x = new ShutterRinging();
        x.rule(1, 0, 2, 3, 4, 5);
        x.rule(0, 2, 1, 3, 4, 5);
        x.rule(0, 1, 3, 2, 4, 5);
        x.rule(0, 1, 2, 4, 3, 5);
        x.rule(0, 1, 2, 3, 5, 4);
        x.set(code("021345"));
        Check.due("reach", 720, x.reach());
        Check.due("farthest", 15, x.farthest());
        Check.due("mean", 7.5, x.mean());
        Check.due("steps to rounds", 1, x.steps(1865));
        Check.due("steps to rounds backwards", 14, x.steps(44790));
    }

    private static void wrongCodes() {
        ShutterRinging x = new ShutterRinging();
        x.rule(1, 2, 3, 4, 5, 0);
        x.ring(0);
        for (int wrong : WRONG_CODES) {
            Check.refused(x, "steps(" + wrong + ")", Check.ARGUMENT, () -> x.steps(wrong));
            Check.refused(x, "next(" + wrong + ")", Check.ARGUMENT, () -> x.next(wrong));
        }
    }

    private static long digestOf(int... numbers) {
        long digest = 1123;
        for (int number : numbers) {
            digest = digest * 31 + number;
        }
        return digest;
    }

    private static void digestOfANewObject() {
        Check.due("digest", digestOf(0, 0, 0, 1865, 0), new ShutterRinging().digest());
    }

    private static void digestOfAll() {
        ShutterRinging x = new ShutterRinging();
        x.rule(1, 2, 3, 4, 5, 0);
        x.rule(1, 0, 2, 3, 4, 5);
        x.peal();
        x.peal();
        x.add(1, 1);
        x.add(1, 0);
        x.ring(0);
        long due = digestOf(2, 2, 1, code("501234"), 1,
                1, 2, 3, 4, 5, 0, 6, 0, 1, 1, -1,
                1, 0, 2, 3, 4, 5, 2, 4, 1, 5, 1,
                0, 1865, 1, 1, 1,
                2, code("510234"), 1, 5, 10, 1, 0);
        Check.due("digest", due, x.digest());
        Check.due("digest again", due, x.digest());
        Check.due("the row stays", code("501234"), x.count(3));
    }
}
