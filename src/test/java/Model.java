import java.util.ArrayDeque;
import java.util.ArrayList;
import java.util.Arrays;
import java.util.Deque;
import java.util.HashSet;
import java.util.List;
import java.util.Map;
import java.util.Set;
import java.util.TreeMap;

/**
 * The document once more, in other ways than the class's: what is best is carried down the water as a
 * table of ways so far, texts are held against the grammar by all that may come next, and the host's
 * things are classes that override one another.
 */
final class Model {
    static final int LOW_BAD = -1000001;

    /** A way so far: what it makes (or costs, below 0), and what was chosen on it. */
    record Way(int made, List<Integer> chosen) {
        Way with(int more, int choice) {
            List<Integer> longer = new ArrayList<>(chosen);
            longer.add(choice);
            return new Way(made + more, longer);
        }

        boolean isBehind(Way other) {
            if (made != other.made) {
                return made < other.made;
            }
            for (int i = 0; i < chosen.size(); i++) {
                int order = Integer.compare(chosen.get(i), other.chosen.get(i));
                if (order != 0) {
                    return order > 0;
                }
            }
            return false;
        }
    }

    static final class Village {
        final int[] facts = {0, 99, 0, 0, 99, 1};
        int[] worths = new int[12];

        Village copy() {
            Village other = new Village();
            System.arraycopy(facts, 0, other.facts, 0, 6);
            other.worths = worths.clone();
            return other;
        }

        int makes(int use, int passes) {
            int sum = 0;
            for (int i = 0; i < use; i++) {
                sum += worths[i];
            }
            return passes > facts[1] ? sum - facts[2] * (passes - facts[1]) : sum;
        }

        int wanted(int measures) {
            int use = 0;
            for (int i = 0; i < 12 && i < measures; i++) {
                if (worths[i] > 0) {
                    use = i + 1;
                }
            }
            return use;
        }
    }

    record Line(int village, int amount, List<String> condition) {
    }

    static final class Land {
        final List<Village> villages = new ArrayList<>();
        final List<Integer> years = new ArrayList<>();
        int damAt = -1;
        int holds = 0;
        List<Line> lines = new ArrayList<>();

        Land copy() {
            Land other = new Land();
            for (Village v : villages) {
                other.villages.add(v.copy());
            }
            other.years.addAll(years);
            other.damAt = damAt;
            other.holds = holds;
            other.lines = lines;
            return other;
        }
    }

    record Row(int sort, long[] items) {
    }

    Land land = new Land();
    Land saved = null;
    final List<Integer> tape = new ArrayList<>();
    final List<int[]> rows = new ArrayList<>();
    final Row[] sheets = new Row[4];
    /** A Row, a Thing's kind and number as an int[2], or null. */
    final Object[] shelves = new Object[4];
    final List<Integer> trace = new ArrayList<>();

    // ---- the water

    int[] inflow(int wet) {
        int[] in = new int[land.villages.size()];
        for (int v = 0; v < in.length; v++) {
            in[v] = land.villages.get(v).facts[0] * wet / 10;
        }
        return in;
    }

    static void improve(Map<Integer, Way> ways, int state, Way way) {
        Way there = ways.get(state);
        if (there == null || there.isBehind(way)) {
            ways.put(state, way);
        }
    }

    static Way bestOf(Map<Integer, Way> ways) {
        Way best = null;
        for (Way way : ways.values()) {
            if (best == null || best.isBehind(way)) {
                best = way;
            }
        }
        return best;
    }

    Way bestWay(int[] in, int a, int b) {
        Map<Integer, Way> ways = new TreeMap<>(Map.of(0, new Way(0, List.of())));
        for (int v = a; v <= b; v++) {
            Map<Integer, Way> next = new TreeMap<>();
            for (Map.Entry<Integer, Way> e : ways.entrySet()) {
                int come = e.getKey() + in[v];
                for (int use = 0; use <= Math.min(12, come); use++) {
                    int made = land.villages.get(v).makes(use, come - use);
                    improve(next, come - use, e.getValue().with(made, use));
                }
            }
            ways = next;
        }
        return bestOf(ways);
    }

    Way bestWay(int wet) {
        return bestWay(inflow(wet), 0, land.villages.size() - 1);
    }

    int runOf(int a, int b) {
        return bestWay(inflow(10), a, b).made();
    }

    int[][] best() {
        List<Integer> uses = bestWay(10).chosen();
        int[][] told = new int[uses.size()][3];
        int above = 0;
        for (int v = 0; v < told.length; v++) {
            above += inflow(10)[v] - uses.get(v);
            told[v] = new int[] {uses.get(v), above, land.villages.get(v).makes(uses.get(v), above)};
        }
        return told;
    }

    /** What comes, is let, is used, is made, when all must let m pass; by the treaty, if m is -1. */
    int[][] course(int wet, int m) {
        int[] in = inflow(wet);
        int[][] told = new int[in.length][4];
        int above = 0;
        for (int v = 0; v < in.length; v++) {
            Village village = land.villages.get(v);
            int come = above + in[v];
            int let = m;
            if (m < 0) {
                let = 0;
                for (Line line : land.lines) {
                    if (line.village == v && holds(line.condition, wet, come, village.facts[0])) {
                        let = line.amount;
                    }
                }
            }
            let = Math.min(let, come);
            int use = village.wanted(come - let);
            above = come - use;
            told[v] = new int[] {come, let, use, village.makes(use, above)};
        }
        return told;
    }

    int[] shares(int sharing) {
        int count = land.villages.size();
        int[] told = new int[count];
        int all = bestWay(10).made();
        for (int v = 0; v < count; v++) {
            switch (sharing) {
                case 0 -> told[v] = course(10, 0)[v][3];
                case 1 -> told[v] = runOf(0, v) - (v == 0 ? 0 : runOf(0, v - 1));
                case 2 -> told[v] = runOf(v, count - 1) - (v == count - 1 ? 0 : runOf(v + 1, count - 1));
                default -> {
                    int part = (int) Math.floor(all / (double) count);
                    told[v] = part + (v < all - part * count ? 1 : 0);
                }
            }
        }
        return told;
    }

    int mostOf(int v) {
        int come = 0;
        for (int u = 0; u <= v; u++) {
            come += land.villages.get(u).facts[0];
        }
        return land.villages.get(v).makes(Math.min(12, come), 0);
    }

    int breakOf(int[] shares) {
        for (int a = 0; a < shares.length; a++) {
            for (int b = a; b < shares.length; b++) {
                if (Arrays.stream(shares, a, b + 1).sum() < runOf(a, b)) {
                    return 100 + 10 * a + b;
                }
            }
        }
        for (int v = 0; v < shares.length; v++) {
            if (shares[v] > mostOf(v)) {
                return 200 + v;
            }
        }
        return 0;
    }

    Way cleanest() {
        Map<Integer, Way> ways = new TreeMap<>(Map.of(0, new Way(0, List.of())));
        for (int v = 0; v < land.villages.size(); v++) {
            Village village = land.villages.get(v);
            Map<Integer, Way> next = new TreeMap<>();
            for (Map.Entry<Integer, Way> e : ways.entrySet()) {
                if (v > 0 && e.getKey() > village.facts[4]) {
                    continue;
                }
                int dirt = e.getKey() + village.facts[3];
                for (int clean = 0; clean <= dirt; clean++) {
                    improve(next, dirt - clean, e.getValue().with(-clean * village.facts[5], clean));
                }
            }
            ways = next;
        }
        return bestOf(ways);
    }

    Way keptBest() {
        Map<Integer, Way> ways = new TreeMap<>(Map.of(0, new Way(0, List.of())));
        for (int wet : land.years) {
            Map<Integer, Way> next = new TreeMap<>();
            for (Map.Entry<Integer, Way> e : ways.entrySet()) {
                for (int behind = 0; behind <= land.holds; behind++) {
                    int[] in = inflow(wet);
                    if (land.damAt >= 0) {
                        in[land.damAt] += e.getKey() - behind;
                        if (in[land.damAt] < 0) {
                            continue;
                        }
                    }
                    int made = bestWay(in, 0, in.length - 1).made();
                    improve(next, behind, e.getValue().with(made, behind));
                }
            }
            ways = next;
        }
        return bestOf(ways);
    }

    int lostBy(int m) {
        int all = 0;
        for (int wet : land.years) {
            all += bestWay(wet).made();
            for (int[] told : course(wet, m)) {
                all -= told[3];
            }
        }
        return all;
    }

    // ---- texts

    record Part(String text, int place) {
    }

    static final Map<String, String[][]> GRAMMAR = Map.of(
        "TEXT", new String[][] {{}, {"let", "N5", "N99", "IF", ";", "TEXT"}},
        "IF", new String[][] {{}, {"if", "COND"}},
        "COND", new String[][] {{"ALL", "ORS"}},
        "ORS", new String[][] {{}, {"or", "ALL", "ORS"}},
        "ALL", new String[][] {{"ONE", "ANDS"}},
        "ANDS", new String[][] {{}, {"and", "ONE", "ANDS"}},
        "ONE", new String[][] {{"not", "ONE"}, {"(", "COND", ")"}, {"VALUE", "SIGN", "VALUE"}},
        "VALUE", new String[][] {{"N999"}, {"wet"}, {"comes"}, {"flow"}},
        "SIGN", new String[][] {{"<"}, {"="}, {">"}});

    static List<Part> parts(String text) {
        List<Part> told = new ArrayList<>();
        java.util.regex.Matcher m = java.util.regex.Pattern.compile("[a-z]+|[0-9]+|[^ ]",
            java.util.regex.Pattern.DOTALL).matcher(text);
        while (m.find()) {
            told.add(new Part(m.group(), m.start()));
        }
        return told;
    }

    static boolean fits(String symbol, String part) {
        if (symbol.startsWith("N")) {
            return part.matches("[0-9]{1,3}") && Integer.parseInt(part) <= Integer.parseInt(symbol.substring(1));
        }
        return symbol.equals(part);
    }

    /** Puts all piles that the topmost symbol can become, until a part stands topmost, into out. */
    static void open(List<String> pile, Set<List<String>> out) {
        Deque<List<String>> todo = new ArrayDeque<>(List.of(pile));
        while (!todo.isEmpty()) {
            List<String> p = todo.pop();
            String[][] ways = p.isEmpty() ? null : GRAMMAR.get(p.get(p.size() - 1));
            if (ways == null) {
                out.add(p);
                continue;
            }
            for (String[] way : ways) {
                List<String> next = new ArrayList<>(p.subList(0, p.size() - 1));
                for (int i = way.length - 1; i >= 0; i--) {
                    next.add(way[i]);
                }
                todo.push(next);
            }
        }
    }

    static int faultOf(String text) {
        Set<List<String>> piles = new HashSet<>();
        open(List.of("TEXT"), piles);
        int depth = 0;
        int lets = 0;
        for (Part part : parts(text)) {
            depth += part.text.equals("(") ? 1 : part.text.equals(")") ? -1 : 0;
            lets += part.text.equals("let") ? 1 : 0;
            Set<List<String>> next = new HashSet<>();
            for (List<String> p : piles) {
                if (!p.isEmpty() && fits(p.get(p.size() - 1), part.text)) {
                    open(p.subList(0, p.size() - 1), next);
                }
            }
            if (next.isEmpty() || depth > 3 || lets > 8) {
                return part.place;
            }
            piles = next;
        }
        return piles.contains(List.<String>of()) ? -1 : text.length();
    }

    static List<Line> linesOf(String text) {
        List<Line> told = new ArrayList<>();
        List<String> line = new ArrayList<>();
        for (Part part : parts(text)) {
            if (part.text.equals(";")) {
                List<String> condition = new ArrayList<>(line.subList(Math.min(4, line.size()), line.size()));
                told.add(new Line(Integer.parseInt(line.get(1)), Integer.parseInt(line.get(2)), condition));
                line.clear();
            } else {
                line.add(part.text);
            }
        }
        return told;
    }

    static boolean holds(List<String> condition, int wet, int comes, int flow) {
        if (condition.isEmpty()) {
            return true;
        }
        int or = outside(condition, "or");
        if (or >= 0) {
            return holds(condition.subList(0, or), wet, comes, flow)
                | holds(condition.subList(or + 1, condition.size()), wet, comes, flow);
        }
        int and = outside(condition, "and");
        if (and >= 0) {
            return holds(condition.subList(0, and), wet, comes, flow)
                & holds(condition.subList(and + 1, condition.size()), wet, comes, flow);
        }
        if (condition.get(0).equals("not")) {
            return !holds(condition.subList(1, condition.size()), wet, comes, flow);
        }
        if (condition.get(0).equals("(")) {
            return holds(condition.subList(1, condition.size() - 1), wet, comes, flow);
        }
        int left = valueOf(condition.get(0), wet, comes, flow);
        int right = valueOf(condition.get(2), wet, comes, flow);
        return switch (condition.get(1)) {
            case "<" -> left < right;
            case "=" -> left == right;
            default -> left > right;
        };
    }

    /** Where a word first stands outside of all brackets, or -1. */
    static int outside(List<String> condition, String word) {
        int depth = 0;
        for (int i = 0; i < condition.size(); i++) {
            String part = condition.get(i);
            depth += part.equals("(") ? 1 : part.equals(")") ? -1 : 0;
            if (depth == 0 && part.equals(word)) {
                return i;
            }
        }
        return -1;
    }

    static int valueOf(String value, int wet, int comes, int flow) {
        return switch (value) {
            case "wet" -> wet;
            case "comes" -> comes;
            case "flow" -> flow;
            default -> Integer.parseInt(value);
        };
    }

    int readTape() {
        StringBuilder text = new StringBuilder();
        for (int b : tape) {
            text.append((char) b);
        }
        tape.clear();
        int fault = faultOf(text.toString());
        if (fault >= 0) {
            return -100 - fault;
        }
        land.lines = linesOf(text.toString());
        return land.lines.size();
    }

    // ---- things

    abstract static class Thing {
        int n;
        int a;
        List<Integer> trace;

        void runs(int body) {
            if (trace.size() < 30) {
                trace.add(body);
            }
        }

        abstract int takes(int x);

        abstract int lets(int x);

        abstract int pays(int x);

        abstract int tells(int x);
    }

    static class Sharing extends Thing {
        int takes(int x) {
            runs(10);
            return x + a;
        }

        int lets(int x) {
            runs(11);
            return takes(x) * 2;
        }

        int pays(int x) {
            runs(12);
            return x / (a - n);
        }

        int tells(int x) {
            runs(13);
            return lets(x) ^ n;
        }
    }

    static class Keep extends Sharing {
        int lets(int x) {
            runs(20);
            return 0 - super.lets(x);
        }
    }

    static class Best extends Sharing {
        int takes(int x) {
            runs(30);
            return super.takes(x) * 3;
        }
    }

    static class Down extends Best {
        int lets(int x) {
            runs(40);
            return super.lets(x) + a;
        }

        int tells(int x) {
            runs(41);
            return super.tells(x) + pays(n + 1);
        }
    }

    static class Up extends Best {
        int pays(int x) {
            runs(50);
            return super.pays(x - 1);
        }
    }

    static class Equal extends Down {
        int takes(int x) {
            runs(60);
            return super.takes(x) ^ a;
        }

        int pays(int x) {
            runs(61);
            return super.pays(x + 2);
        }
    }

    static class VillageThing extends Thing {
        int takes(int x) {
            runs(70);
            return x - a;
        }

        int lets(int x) {
            runs(71);
            return takes(x) * n;
        }

        int pays(int x) {
            runs(72);
            return x ^ a;
        }

        int tells(int x) {
            runs(73);
            return lets(x) + pays(n);
        }
    }

    static Thing thing(int kind) {
        return switch (kind) {
            case 0 -> new Sharing();
            case 1 -> new Keep();
            case 2 -> new Best();
            case 3 -> new Down();
            case 4 -> new Up();
            case 5 -> new Equal();
            default -> new VillageThing();
        };
    }

    Object held(int shelf) {
        Object held = shelves[shelf];
        if (held instanceof int[] pair && pair[1] >= land.villages.size()) {
            return null;
        }
        return held;
    }

    int act(int shelf, int act, int x) {
        trace.clear();
        if (shelf < 0 || shelf > 3 || act < 0 || act > 3 || !(held(shelf) instanceof int[] pair)) {
            return 0;
        }
        Thing thing = thing(pair[0]);
        thing.n = pair[1];
        thing.trace = trace;
        thing.a = switch (pair[0]) {
            case 0, 2 -> best()[thing.n][2];
            case 6 -> land.villages.get(thing.n).facts[0];
            case 1 -> shares(0)[thing.n];
            default -> shares(pair[0] - 2)[thing.n];
        };
        try {
            return switch (act) {
                case 0 -> thing.takes(x);
                case 1 -> thing.lets(x);
                case 2 -> thing.pays(x);
                default -> thing.tells(x);
            };
        } catch (ArithmeticException parted) {
            return -15;
        }
    }

    int taken(int shelf, int as) {
        if (shelf < 0 || shelf > 3 || as < 0 || as > 13 || as > 6 && as < 10) {
            return -1;
        }
        Object held = held(shelf);
        if (held == null) {
            return -11;
        }
        if (held instanceof Row row) {
            return as == 10 + row.sort ? row.items.length : -13;
        }
        int[] pair = (int[]) held;
        return as <= 6 && thing(as).getClass().isInstance(thing(pair[0])) ? pair[1] : -13;
    }
}
