import java.util.ArrayDeque;
import java.util.ArrayList;
import java.util.Deque;
import java.util.HashMap;
import java.util.HashSet;
import java.util.List;
import java.util.Map;
import java.util.Set;

/** The document once more, over texts and the Java library, with no part of the class that it is compared with. */
final class Model {
    private static final String ROUNDS = "012345";

    private final List<int[]> rules = new ArrayList<>();
    private final List<List<Integer>> peals = new ArrayList<>();
    private String row = ROUNDS;
    private int changes;

    static boolean isRow(int code) {
        String text = Integer.toString(code, 6);
        return code >= 0 && text.length() <= 6 && text(code).chars().distinct().count() == 6;
    }

    private static String text(int code) {
        String digits = Integer.toString(code, 6);
        return "0".repeat(6 - digits.length()) + digits;
    }

    private static int code(String row) {
        return Integer.parseInt(row, 6);
    }

    private static String moved(String row, int[] rule) {
        char[] then = new char[6];
        for (int k = 0; k < 6; k++) {
            then[rule[k]] = row.charAt(k);
        }
        return new String(then);
    }

    private static IndexOutOfBoundsException index() {
        return new IndexOutOfBoundsException();
    }

    private static void between(int number, int bound) {
        if (number < 0 || number >= bound) {
            throw index();
        }
    }

    private static void row(int code) {
        if (!isRow(code)) {
            throw new IllegalArgumentException();
        }
    }

    int rule(int... to) {
        Set<Integer> different = new HashSet<>();
        for (int place : to) {
            if (place < 0 || place > 5 || !different.add(place)) {
                throw new IllegalArgumentException();
            }
        }
        if (rules.size() == 8) {
            throw new IllegalStateException();
        }
        rules.add(to.clone());
        return rules.size() - 1;
    }

    int goes(int rule, int place) {
        between(rule, rules.size());
        between(place, 6);
        return rules.get(rule)[place];
    }

    int about(int rule, int what) {
        between(rule, rules.size());
        between(what, 5);
        int[] to = rules.get(rule);
        switch (what) {
            case 0:
                return order(List.of(rule));
            case 1:
                int left = 0;
                for (int k = 0; k < 6; k++) {
                    left += to[k] == k ? 1 : 0;
                }
                return left;
            case 2:
                // An even number of places in a group is an odd number of pairs changed.
                return (6 - groups(to)) % 2;
            case 3:
                return groups(to);
            default:
                for (int other = 0; other < rules.size(); other++) {
                    if (moved(moved(ROUNDS, to), rules.get(other)).equals(ROUNDS)) {
                        return other;
                    }
                }
                return -1;
        }
    }

    private static int groups(int[] to) {
        Set<Set<Integer>> groups = new HashSet<>();
        for (int k = 0; k < 6; k++) {
            Set<Integer> group = new HashSet<>();
            int place = k;
            while (group.add(place)) {
                place = to[place];
            }
            groups.add(group);
        }
        return groups.size();
    }

    private int order(List<Integer> rung) {
        String now = ROUNDS;
        int times = 0;
        do {
            for (int rule : rung) {
                now = moved(now, rules.get(rule));
            }
            times++;
        } while (!now.equals(ROUNDS));
        return times;
    }

    boolean swaps(int a, int b) {
        between(a, rules.size());
        between(b, rules.size());
        int[] one = rules.get(a);
        int[] other = rules.get(b);
        return moved(moved(ROUNDS, one), other).equals(moved(moved(ROUNDS, other), one));
    }

    int ring(int rule) {
        between(rule, rules.size());
        row = moved(row, rules.get(rule));
        changes++;
        return code(row);
    }

    int undo(int rule) {
        between(rule, rules.size());
        String before = row;
        for (int times = order(List.of(rule)) - 1; times > 0; times--) {
            before = moved(before, rules.get(rule));
        }
        row = before;
        changes++;
        return code(row);
    }

    int at(int place) {
        between(place, 6);
        return row.charAt(place) - '0';
    }

    int find(int shutter) {
        between(shutter, 6);
        return row.indexOf('0' + shutter);
    }

    int set(int code) {
        row(code);
        int before = code(row);
        row = text(code);
        return before;
    }

    int peal() {
        if (peals.size() == 6) {
            throw new IllegalStateException();
        }
        peals.add(new ArrayList<>());
        return peals.size() - 1;
    }

    int add(int peal, int rule) {
        between(peal, peals.size());
        between(rule, rules.size());
        if (peals.get(peal).size() == 30) {
            throw new IllegalStateException();
        }
        peals.get(peal).add(rule);
        return peals.get(peal).size();
    }

    int play(int peal) {
        between(peal, peals.size());
        for (int rule : peals.get(peal)) {
            ring(rule);
        }
        return code(row);
    }

    /** The row from which the peal begins and those behind each of its rules, rung so often. */
    private List<String> rows(String first, List<Integer> rung, int times) {
        List<String> rows = new ArrayList<>();
        rows.add(first);
        for (int time = 0; time < times; time++) {
            for (int rule : rung) {
                rows.add(moved(rows.get(rows.size() - 1), rules.get(rule)));
            }
        }
        return rows;
    }

    int told(int peal, int what) {
        between(peal, peals.size());
        between(what, 5);
        List<Integer> rung = peals.get(peal);
        switch (what) {
            case 0:
                return rung.size();
            case 1:
                List<String> once = rows(ROUNDS, rung, 1);
                return code(once.get(once.size() - 1));
            case 2:
                List<String> here = rows(row, rung, 1);
                int last = here.size() - 1;
                if (last > 0 && here.get(last).equals(here.get(0))) {
                    here.remove(last);
                }
                return new HashSet<>(here).size() == here.size() ? 1 : 0;
            case 3:
                return order(rung);
            default:
                return new HashSet<>(rows(ROUNDS, rung, order(rung))).size();
        }
    }

    int count(int what) {
        between(what, 5);
        int pairs = 0;
        for (int a = 0; a < 6; a++) {
            for (int b = a + 1; b < 6; b++) {
                pairs += row.charAt(a) > row.charAt(b) ? 1 : 0;
            }
        }
        return new int[] {rules.size(), peals.size(), changes, code(row), pairs % 2}[what];
    }

    private Map<String, Integer> distances(String from) {
        Map<String, Integer> far = new HashMap<>();
        Deque<String> open = new ArrayDeque<>();
        far.put(from, 0);
        open.add(from);
        while (!open.isEmpty()) {
            String now = open.remove();
            for (int[] rule : rules) {
                String then = moved(now, rule);
                if (!far.containsKey(then)) {
                    far.put(then, far.get(now) + 1);
                    open.add(then);
                }
            }
        }
        return far;
    }

    int steps(int code) {
        row(code);
        return distances(row).getOrDefault(text(code), -1);
    }

    int next(int code) {
        row(code);
        int whole = steps(code);
        for (int rule = 0; rule < rules.size() && whole > 0; rule++) {
            if (distances(moved(row, rules.get(rule))).getOrDefault(text(code), -1) == whole - 1) {
                return rule;
            }
        }
        return -1;
    }

    int reach() {
        return distances(row).size();
    }

    int farthest() {
        return distances(row).values().stream().mapToInt(far -> far).max().getAsInt();
    }

    double mean() {
        return distances(row).values().stream().mapToInt(far -> far).average().getAsDouble();
    }

    long digest() {
        long d = 1123;
        for (int what = 0; what < 5; what++) {
            d = d * 31 + count(what);
        }
        for (int rule = 0; rule < rules.size(); rule++) {
            for (int place : rules.get(rule)) {
                d = d * 31 + place;
            }
            for (int what = 0; what < 5; what++) {
                d = d * 31 + about(rule, what);
            }
        }
        for (int peal = 0; peal < peals.size(); peal++) {
            for (int what = 0; what < 5; what++) {
                d = d * 31 + told(peal, what);
            }
            for (int rule : peals.get(peal)) {
                d = d * 31 + rule;
            }
        }
        return d;
    }
}
