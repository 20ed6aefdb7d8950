import java.util.ArrayList;
import java.util.HashMap;
import java.util.List;
import java.util.Map;
import java.util.NoSuchElementException;
import java.util.Random;
import java.util.TreeSet;

/** Texts made by chance, each call held against the document told once more (Oracle). */
public final class OracleTest {
    private static final List<String> MADE = List.of("input", "number", "add", "sub", "mul", "min", "max", "tex", "less",
        "same", "both", "either", "flip", "pick");
    private static final Due DUE = new Due();
    private static final Map<String, Integer> SEEN = new HashMap<>();
    private static String text = "";

    public static void main(String[] args) {
        int rounds = args.length > 0 ? Integer.parseInt(args[0]) : 1500;
        long seed = args.length > 1 ? Long.parseLong(args[1]) : 1;
        for (int round = 0; round < rounds && !DUE.anyWrong(); round++) {
            round(new Random(seed * 1000003 + round));
        }
        System.out.println(new java.util.TreeMap<>(SEEN));
        DUE.end();
    }

    private static void seen(String what) {
        SEEN.merge(what, 1, Integer::sum);
    }

    private static void round(Random random) {
        Texts texts = new Texts(random.nextLong());
        ShaderReady x = new ShaderReady();
        Oracle o = new Oracle();
        for (int step = 0; step < 3; step++) {
            String whole = texts.shader(2 + random.nextInt(random.nextInt(3) == 0 ? 40 : 12));
            if (whole.length() > 1000) {
                whole = whole.substring(0, 1000);
            }
            for (int i = 0; i < 8; i++) {
                read(x, o, texts.broken(whole));
            }
            if (random.nextInt(4) == 0) {
                int rule = random.nextInt(4);
                DUE.due("rule", x.rule(rule), o.rule);
                o.rule = rule;
            }
            read(x, o, whole);
            compare(x, o, random);
            change(x, o, random);
            compare(x, o, random);
        }
    }

    private static void read(ShaderReady x, Oracle o, String from) {
        int want = o.read(from);
        seen(want == 0 ? "read" : "fault " + want % 16);
        if (want == 0) {
            text = from;
        }
        DUE.due("shader of " + from, Due.shader(x, from), want);
        DUE.due("tape", x.count(11), 0);
    }

    private static void change(ShaderReady x, Oracle o, Random random) {
        for (int c = 0; c < 8; c++) {
            int cell = random.nextInt(16);
            int number = random.nextInt(1000);
            DUE.due("cell", x.cell(cell, number), o.table[cell]);
            o.table[cell] = number;
        }
        int rule = random.nextInt(4);
        DUE.due("rule", x.rule(rule), o.rule);
        o.rule = rule;
        for (int i = 0; i < o.lanes.length; i++) {
            for (int lane = 0; lane < 4; lane++) {
                int number = o.ranges[i][0] - 1 + random.nextInt(o.ranges[i][1] - o.ranges[i][0] + 3);
                boolean within = number >= o.ranges[i][0] && number <= o.ranges[i][1];
                DUE.due("set(" + i + ", " + lane + ", " + number + ")", x.set(i, lane, number),
                    within ? o.lanes[i][lane] : -1);
                for (int l = 0; l < 4 && within; l++) {
                    o.lanes[i][l] = l == lane || o.shader.inputs.get(i).given() ? number : o.lanes[i][l];
                }
            }
            narrow(x, o, random, i);
        }
    }

    private static void narrow(ShaderReady x, Oracle o, Random random, int i) {
        int low = random.nextInt(1100) - 50;
        int high = random.nextInt(1100) - 50;
        if (random.nextInt(4) > 0) {
            int[] sorted = o.lanes[i].clone();
            java.util.Arrays.sort(sorted);
            low = sorted[0] - random.nextInt(3) + random.nextInt(2);
            high = sorted[3] + random.nextInt(3) - random.nextInt(2);
        }
        boolean fits = low >= 0 && high <= 999 && low <= high;
        for (int lane = 0; lane < 4; lane++) {
            fits &= o.lanes[i][lane] >= low && o.lanes[i][lane] <= high;
        }
        DUE.due("narrow(" + i + ", " + low + ", " + high + ")", x.narrow(i, low, high) ? 1 : 0, fits ? 1 : 0);
        if (fits) {
            o.ranges[i] = new int[] {low, high};
            seen("narrowed");
        }
    }

    private static void due(String call, long got, long want) {
        DUE.due(call + " of " + text, got, want);
    }

    private static long bits(Iterable<Integer> values) {
        long bits = 0;
        for (int v : values) {
            bits |= 1L << v;
        }
        return bits;
    }

    private static void compare(ShaderReady x, Oracle o, Random random) {
        Oracle.View view = o.new View(o.ranges, o.shader.shown, o.rule);
        seen("needed " + view.needed.size() / 4 * 4);
        compareCounts(x, o, view);
        compareValues(x, o, view);
        compareSets(x, o, view);
        compareNumbers(x, o);
        compareOrder(x, o, view);
        compareOthers(x, o, view, random);
    }

    private static void compareCounts(ShaderReady x, Oracle o, Oracle.View view) {
        int low = 0;
        for (int v = 0; v < o.shader.values.size(); v++) {
            low += view.low(v) ? 1 : 0;
        }
        int[] want = {o.shader.values.size(), o.shader.inputs.size(), o.shader.shown.size(), view.needed.size(), low,
            view.clauses.size(), view.cycles(), o.shader.fetch, o.shader.alu, o.rule, o.shader.whens, 0,
            o.shader.names, -1};
        for (int what = 0; what < want.length; what++) {
            due("count(" + what + ")", x.count(what), want[what]);
        }
        for (int k = 0; k <= o.shader.whens; k++) {
            due("parts(" + k + ")", x.parts(k), k == o.shader.whens ? -1 : o.shader.parted.contains(k) ? 1 : 0);
        }
        for (int i = 0; i < o.lanes.length; i++) {
            int[] input = {i, o.ranges[i][0], o.ranges[i][1], o.shader.inputs.get(i).given() ? 1 : 0, o.lanes[i][0],
                o.lanes[i][1], o.lanes[i][2], o.lanes[i][3], -1};
            for (int what = 0; what < input.length; what++) {
                due("input(" + i + ", " + what + ")", x.input(i, what), input[what]);
            }
        }
        due("input past", x.input(o.lanes.length, 0), -1);
        for (int i = 0; i <= o.shader.shown.size(); i++) {
            due("shown(" + i + ")", x.shown(i), i < o.shader.shown.size() ? o.shader.shown.get(i) : -1);
        }
    }

    private static void compareValues(ShaderReady x, Oracle o, Oracle.View view) {
        for (int v = 0; v < o.shader.values.size(); v++) {
            Oracle.Value value = o.shader.values.get(v);
            int[] want = {MADE.indexOf(value.made()), value.args().get(0),
                value.args().size() > 1 ? value.args().get(1) : -1, value.args().size() > 2 ? value.args().get(2) : -1,
                value.flag() ? 1 : 0, value.uniform() ? 1 : 0, view.known(v) ? 1 : 0, view.needed.contains(v) ? 1 : 0,
                view.stands(v), view.needed.contains(v) ? view.height(v) : 0, view.width(v), -2};
            for (int what = 0; what < want.length; what++) {
                due("value(" + v + ", " + what + ")", x.value(v, what), want[what]);
            }
            due("range(" + v + ", 0)", x.range(v, 0), view.ends[v][0]);
            due("range(" + v + ", 1)", x.range(v, 1), view.ends[v][1]);
            if (view.stands(v) != v) {
                seen("stands for another");
            }
        }
        due("value past", x.value(o.shader.values.size(), 0), -2);
    }

    private static void compareSets(ShaderReady x, Oracle o, Oracle.View view) {
        List<TreeSet<Integer>> sets = new ArrayList<>();
        for (int what = 0; what < 7; what++) {
            sets.add(new TreeSet<>());
        }
        sets.get(5).addAll(o.shader.shown);
        sets.get(0).addAll(view.needed);
        for (int v = 0; v < o.shader.values.size(); v++) {
            boolean[] in = {false, o.shader.values.get(v).uniform(), view.known(v), view.low(v),
                o.shader.values.get(v).flag(), false, view.tex(v)};
            for (int what = 0; what < 7; what++) {
                if (in[what]) {
                    sets.get(what).add(v);
                }
            }
            boolean needed = view.needed.contains(v);
            due("kin(" + v + ", 0)", x.kin(v, 0), needed ? bits(view.sources(v)) : 0);
            due("kin(" + v + ", 1)", x.kin(v, 1), needed ? bits(view.users(v)) : 0);
            due("kin(" + v + ", 2)", x.kin(v, 2), needed ? bits(view.closure(v, false)) : 0);
            due("kin(" + v + ", 3)", x.kin(v, 3), needed ? bits(view.closure(v, true)) : 0);
        }
        for (int what = 0; what < 7; what++) {
            due("all(" + what + ")", x.all(what), bits(sets.get(what)));
        }
    }

    private static void compareNumbers(ShaderReady x, Oracle o) {
        if (o.shader.values.size() > 40) {
            return;
        }
        for (int lane = 0; lane < 4; lane++) {
            List<Integer> walked = o.walk(lane);
            for (int i = 0; i <= walked.size(); i++) {
                String call = "(" + lane + ", " + i + ")";
                try {
                    due("walked" + call, x.walked(lane, i), i < walked.size() ? walked.get(i) : Long.MIN_VALUE);
                    due("ran" + call, x.ran(lane, i), walked.get(i));
                } catch (NoSuchElementException none) {
                    due("throws" + call, i, walked.size());
                }
            }
        }
        if (!deep(o)) {
            for (int v = 0; v < o.shader.values.size(); v++) {
                int differs = 0;
                for (int lane = 0; lane < 4; lane++) {
                    due("is(" + v + ", " + lane + ")", x.is(v, lane), o.is(v, lane));
                    differs |= o.is(v, lane) != o.is(v, 0) ? 1 << lane : 0;
                }
                due("differs(" + v + ")", x.differs(v), differs);
            }
        }
    }

    /** The oracle works a value's args anew each time: too dear where they hang together often. */
    private static boolean deep(Oracle o) {
        double[] work = new double[o.shader.values.size()];
        for (int v = 0; v < work.length; v++) {
            work[v] = 1;
            for (int arg : o.shader.values.get(v).args()) {
                work[v] += arg < v && !MADE.subList(0, 2).contains(o.shader.values.get(v).made()) ? work[arg] : 0;
            }
            if (work[v] > 100000) {
                return true;
            }
        }
        return false;
    }

    private static void compareOrder(ShaderReady x, Oracle o, Oracle.View view) {
        int size = view.order.size();
        for (int p = 0; p <= size; p++) {
            due("order(" + p + ")", x.order(p), p < size ? view.order.get(p) : -1);
            for (int file = 0; file < 4; file++) {
                due("at(" + p + ", " + file + ")", x.at(p, file), p < size && file < 3 ? view.pressure(p, file) : -1);
            }
        }
        for (int file = 0; file < 4; file++) {
            due("pressure(" + file + ")", x.pressure(file), file < 3 ? view.pressure(file) : -1);
            due("used(" + file + ")", x.used(file), file < 2 ? view.used[file] : -1);
        }
        Map<Integer, int[]> places = new HashMap<>();
        if (size <= 6) {
            view.tryAll(new ArrayList<>(), places);
        }
        for (int v = 0; v <= o.shader.values.size(); v++) {
            boolean needed = view.needed.contains(v);
            int[] ends = {0, 0};
            if (needed && size <= 6) {
                ends = places.get(v);
            } else if (needed) {
                ends = new int[] {view.closure(v, false).size(), size - 1 - view.closure(v, true).size()};
            }
            int[] want = needed ? new int[] {view.order.indexOf(v), view.ends(v), view.registers.get(v),
                view.clauseOf(v), ends[0], ends[1], -1} : new int[] {-1, -1, -1, -1, -1, -1, -1};
            for (int what = 0; what < want.length; what++) {
                due("place(" + v + ", " + what + ")", x.place(v, what), want[what]);
            }
        }
        int first = 0;
        for (int k = 0; k < view.clauses.size(); k++) {
            List<Integer> clause = view.clauses.get(k);
            due("clause(" + k + ", 0)", x.clause(k, 0), view.tex(clause.get(0)) ? 1 : 0);
            due("clause(" + k + ", 1)", x.clause(k, 1), first);
            due("clause(" + k + ", 2)", x.clause(k, 2), clause.size());
            due("clause(" + k + ", 3)", x.clause(k, 3), view.cycles(k));
            first += clause.size();
        }
        due("clause past", x.clause(view.clauses.size(), 0), -1);
    }

    private static void compareOthers(ShaderReady x, Oracle o, Oracle.View view, Random random) {
        if (view.needed.size() > 40) {
            return;
        }
        for (int rule = 0; rule < 4; rule++) {
            Oracle.View other = o.new View(o.ranges, o.shader.shown, rule);
            for (int what = 0; what <= 5; what++) {
                due("by(" + rule + ", " + what + ")", x.by(rule, what), what < 5 ? other.cost(what) : -1);
            }
        }
        for (int i = 0; i < o.shader.shown.size(); i++) {
            Oracle.View other = o.new View(o.ranges, List.of(o.shader.shown.get(i)), o.rule);
            for (int what = 0; what <= 6; what++) {
                due("alone(" + i + ", " + what + ")", x.alone(i, what), what < 6 ? other.cost(what) : -1);
            }
        }
        for (int i = 0; i < o.lanes.length; i++) {
            compareNarrowed(x, o, random, i);
        }
        for (int p = 0; p < view.order.size(); p++) {
            compareSwapped(x, o, view, p);
        }
        if (view.needed.size() > 12) {
            due("best", x.best(), -1);
        } else if (view.needed.size() <= 9 || random.nextInt(8) == 0) {
            due("best", x.best(), view.best(new TreeSet<>()));
            seen(x.best() < x.pressure(2) ? "best is less" : "best is the same");
        }
        compareCounts(x, o, view);
    }

    private static void compareNarrowed(ShaderReady x, Oracle o, Random random, int i) {
        int low = random.nextInt(1000);
        int high = random.nextInt(3) == 0 ? low : random.nextInt(1000);
        if (random.nextInt(2) == 0) {
            low = o.ranges[i][0] + random.nextInt(o.ranges[i][1] - o.ranges[i][0] + 1);
            high = low + random.nextInt(4);
        }
        String call = "narrowed(" + i + ", " + low + ", " + high + ", ";
        if (low > high || high > 999) {
            due(call + "0)", x.narrowed(i, low, high, 0), -1);
            return;
        }
        int[][] ranges = o.ranges.clone();
        ranges[i] = new int[] {low, high};
        Oracle.View other = o.new View(ranges, o.shader.shown, o.rule);
        int lows = 0;
        int knowns = 0;
        for (int v = 0; v < o.shader.values.size(); v++) {
            lows += other.low(v) ? 1 : 0;
            knowns += other.known(v) ? 1 : 0;
        }
        for (int what = 0; what <= 8; what++) {
            int want = what == 6 ? lows : what == 7 ? knowns : other.cost(what);
            due(call + what + ")", x.narrowed(i, low, high, what), want);
        }
    }

    private static void compareSwapped(ShaderReady x, Oracle o, Oracle.View view, int p) {
        boolean can = p + 1 < view.order.size() && !view.sources(view.order.get(p + 1)).contains(view.order.get(p));
        Oracle.View other = view;
        if (can) {
            other = o.new View(o.ranges, o.shader.shown, o.rule);
            java.util.Collections.swap(other.order, p, p + 1);
            other.settle();
        }
        for (int what = 0; what <= 3; what++) {
            due("swapped(" + p + ", " + what + ")", x.swapped(p, what), can && what < 3 ? other.cost(what) : -1);
        }
    }
}
