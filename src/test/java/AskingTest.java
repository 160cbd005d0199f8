/** To ask changes nothing: each question is answered alike whatever was asked before it, and after each change. */
public final class AskingTest {
    private static final int UPSIDE_DOWN = Integer.parseInt("543210", 6);
    private static final int NEAR = Integer.parseInt("120345", 6);

    /** A call on the object, a question or a change. */
    private interface Part {
        Object on(ShutterRinging x);
    }

    private static final Part[] QUESTIONS = {
        x -> x.goes(1, 4), x -> x.swaps(0, 1), x -> x.at(2), x -> x.find(2),
        x -> x.about(0, 0), x -> x.about(1, 0), x -> x.about(1, 1), x -> x.about(1, 2), x -> x.about(1, 3),
        x -> x.about(0, 4), x -> x.told(0, 0), x -> x.told(0, 1), x -> x.told(0, 2), x -> x.told(0, 3),
        x -> x.told(0, 4), x -> x.told(1, 1), x -> x.told(1, 2), x -> x.told(1, 3), x -> x.told(1, 4),
        x -> x.told(2, 1), x -> x.told(2, 2), x -> x.told(2, 3), x -> x.told(2, 4),
        x -> x.count(0), x -> x.count(1), x -> x.count(2), x -> x.count(3), x -> x.count(4),
        x -> x.steps(NEAR), x -> x.steps(UPSIDE_DOWN), x -> x.next(NEAR), x -> x.next(UPSIDE_DOWN),
        ShutterRinging::reach, ShutterRinging::farthest, ShutterRinging::mean, ShutterRinging::digest,
    };

    private static final Part[] CHANGES = {
        x -> 0,
        x -> x.rule(5, 0, 1, 2, 3, 4), x -> x.ring(1), x -> x.undo(0), x -> x.set(NEAR), x -> x.set(UPSIDE_DOWN),
        ShutterRinging::peal, x -> x.add(0, 1), x -> x.add(2, 0), x -> x.play(1),
    };

    public static void main(String[] args) {
        for (int change = 0; change < CHANGES.length; change++) {
            for (int question = 0; question < QUESTIONS.length; question++) {
                afterEachOther(change, question);
            }
        }
        Check.end();
    }

    private static ShutterRinging made() {
        ShutterRinging x = new ShutterRinging();
        x.rule(1, 2, 3, 4, 5, 0);
        x.rule(1, 2, 0, 4, 3, 5);
        for (int peal = 0; peal < 3; peal++) {
            x.peal();
        }
        x.add(0, 0);
        x.add(1, 1);
        x.add(1, 0);
        x.ring(0);
        x.ring(1);
        return x;
    }

    private static void afterEachOther(int change, int question) {
        ShutterRinging notAsked = made();
        CHANGES[change].on(notAsked);
        Object due = QUESTIONS[question].on(notAsked);
        for (int before = 0; before < QUESTIONS.length; before++) {
            ShutterRinging x = made();
            QUESTIONS[before].on(x);
            CHANGES[change].on(x);
            Object told = QUESTIONS[question].on(x);
            Check.due("question " + before + ", change " + change + ", question " + question, due, told);
        }
    }
}
