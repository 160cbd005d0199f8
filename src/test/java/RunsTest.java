import java.util.Random;

/** Runs of 512 calls, drawn with fixed seeds, each answer compared with that of the Model. */
public final class RunsTest {
    private static final int RUNS = 150;
    private static final int CALLS = 512;

    private final Random draw;
    private final ShutterRinging x = new ShutterRinging();
    private final Model model = new Model();
    private final int pairRules;

    private RunsTest(int seed) {
        draw = new Random(seed);
        pairRules = seed % 4;
    }

    public static void main(String[] args) {
        for (int seed = 0; seed < RUNS; seed++) {
            RunsTest run = new RunsTest(seed);
            for (int call = 0; call < CALLS; call++) {
                run.oneCall("run " + seed + ", call " + call + ": ");
            }
        }
        Check.end();
    }

    /** Mostly a good number, sometimes one at or beyond the edges. */
    private int number(int bound) {
        int kind = draw.nextInt(40);
        if (kind == 0) {
            return draw.nextInt();
        }
        if (kind == 1) {
            return draw.nextBoolean() ? -1 : bound;
        }
        return draw.nextInt(bound + 1);
    }

    private int[] places() {
        int[] to = {0, 1, 2, 3, 4, 5};
        // Few exchanges make small groups of rows, many of them all 720.
        int exchanges = pairRules == 0 ? draw.nextInt(8) : pairRules;
        for (int k = 0; k < exchanges; k++) {
            int a = draw.nextInt(6);
            int b = pairRules == 3 ? a / 2 * 2 : draw.nextInt(6);
            int kept = to[a];
            to[a] = to[b];
            to[b] = kept;
        }
        if (draw.nextInt(20) == 0) {
            to[draw.nextInt(6)] = number(6);
        }
        return to;
    }

    private int code() {
        if (draw.nextInt(12) == 0) {
            return draw.nextInt(50000) - 1000;
        }
        int code;
        do {
            code = draw.nextInt(46656);
        } while (!Model.isRow(code));
        return code;
    }

    private void compare(String call, Check.Call got, Check.Call want) {
        Check.due(call, Check.outcome(want), Check.outcome(got));
    }

    private void oneCall(String run) {
        int rule = number(draw.nextInt(3) == 0 ? 8 : 2);
        int peal = number(draw.nextInt(3) == 0 ? 6 : 2);
        int what = number(5);
        int small = number(6);
        switch (draw.nextInt(24)) {
            case 0:
                tell(run);
                break;
            case 1:
                compare(run + "goes", () -> x.goes(rule, small), () -> model.goes(rule, small));
                break;
            case 2:
                compare(run + "about", () -> x.about(rule, what), () -> model.about(rule, what));
                break;
            case 3:
                compare(run + "swaps", () -> x.swaps(rule, small), () -> model.swaps(rule, small));
                break;
            case 4:
                compare(run + "ring", () -> x.ring(rule), () -> model.ring(rule));
                break;
            case 5:
                compare(run + "undo", () -> x.undo(rule), () -> model.undo(rule));
                break;
            case 6:
                compare(run + "at", () -> x.at(small), () -> model.at(small));
                break;
            case 7:
                compare(run + "find", () -> x.find(small), () -> model.find(small));
                break;
            case 8:
                compare(run + "peal", x::peal, model::peal);
                break;
            case 9:
                compare(run + "play", () -> x.play(peal), () -> model.play(peal));
                break;
            case 10:
            case 11:
                compare(run + "told", () -> x.told(peal, what), () -> model.told(peal, what));
                break;
            case 12:
                compare(run + "count", () -> x.count(what), () -> model.count(what));
                break;
            case 13:
                compare(run + "reach", x::reach, model::reach);
                break;
            case 14:
                compare(run + "farthest", x::farthest, model::farthest);
                break;
            case 15:
                compare(run + "mean", x::mean, model::mean);
                break;
            case 16:
                compare(run + "digest", x::digest, model::digest);
                break;
            case 17:
            case 18:
            case 19:
                codeCall(run, code());
                break;
            default:
                compare(run + "add", () -> x.add(peal, rule), () -> model.add(peal, rule));
        }
    }

    private void tell(String run) {
        int[] to = places();
        compare(run + "rule", () -> x.rule(to[0], to[1], to[2], to[3], to[4], to[5]), () -> model.rule(to));
    }

    private void codeCall(String run, int code) {
        switch (draw.nextInt(3)) {
            case 0:
                compare(run + "set(" + code + ")", () -> x.set(code), () -> model.set(code));
                break;
            case 1:
                compare(run + "steps(" + code + ")", () -> x.steps(code), () -> model.steps(code));
                break;
            default:
                compare(run + "next(" + code + ")", () -> x.next(code), () -> model.next(code));
        }
    }
}
