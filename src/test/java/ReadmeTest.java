import java.io.IOException;
import java.lang.reflect.Method;
import java.lang.reflect.Modifier;
import java.nio.file.Files;
import java.nio.file.Path;
import java.util.List;
import java.util.regex.Matcher;
import java.util.regex.Pattern;
import java.util.stream.Collectors;

/** The README's example answers as its comments say, and each call of the face is told there. */
public final class ReadmeTest {
    private static final Pattern STEP = Pattern.compile("\\s*(?:int \\w+ = )?(x\\..*\\));\\s*// (-?\\w+).*");

    private final List<String> steps;
    private int taken;

    private ReadmeTest(List<String> steps) {
        this.steps = steps;
    }

    public static void main(String[] args) throws IOException {
        List<String> lines = Files.readAllLines(Path.of("README.md"));
        List<String> steps = lines.stream().map(STEP::matcher).filter(Matcher::matches)
                .map(step -> step.group(1) + " " + step.group(2)).collect(Collectors.toList());
        new ReadmeTest(steps).example();
        eachCall(lines);
        Check.end();
    }

    /** Each line of the example has to stand here in its turn, so that none goes unlooked at. */
    private void step(String call, Object answer) {
        String stands = taken < steps.size() ? steps.get(taken) : "no line";
        Check.due("line " + taken + " of the example", call + " " + answer, stands);
        taken++;
    }

    private void example() {
        ShutterRinging x = new ShutterRinging();
        int turn = x.rule(1, 2, 3, 4, 5, 0);
        step("x.rule(1, 2, 3, 4, 5, 0)", turn);
        int swap = x.rule(1, 0, 2, 3, 4, 5);
        step("x.rule(1, 0, 2, 3, 4, 5)", swap);
        step("x.about(turn, 0)", x.about(turn, 0));
        step("x.about(turn, 4)", x.about(turn, 4));
        step("x.swaps(turn, swap)", x.swaps(turn, swap));
        step("x.ring(turn)", x.ring(turn));
        step("x.at(0)", x.at(0));
        step("x.find(0)", x.find(0));
        step("x.steps(1865)", x.steps(1865));
        step("x.next(1865)", x.next(1865));
        step("x.reach()", x.reach());
        int peal = x.peal();
        step("x.peal()", peal);
        step("x.add(peal, turn)", x.add(peal, turn));
        step("x.add(peal, swap)", x.add(peal, swap));
        step("x.told(peal, 3)", x.told(peal, 3));
        step("x.play(peal)", x.play(peal));
        step("x.count(2)", x.count(2));
        Check.due("lines of the example", steps.size(), taken);
    }

    private static void eachCall(List<String> lines) {
        String calls = lines.stream().filter(line -> line.startsWith("| `")).collect(Collectors.joining());
        for (Method method : ShutterRinging.class.getDeclaredMethods()) {
            if (Modifier.isPublic(method.getModifiers())) {
                String name = method.getName();
                Check.due(name + " stands in the table", true, calls.contains("`" + name + "("));
            }
        }
    }
}
