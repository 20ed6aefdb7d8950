import java.util.ArrayList;
import java.util.HashMap;
import java.util.LinkedHashMap;
import java.util.List;
import java.util.Map;
import java.util.TreeMap;
import java.util.TreeSet;

/** The document once more, told in trees, maps and sets, so that the class can be held against it. */
final class Oracle {
    static final List<String> OPS = List.of("add", "sub", "mul", "min", "max", "tex", "less", "same", "both",
        "either", "flip", "pick", "copy");
    static final List<String> RESERVED = List.of("given", "lane", "fetch", "alu", "is", "when", "else", "times",
        "end", "show");
    static final List<String> TURNABLE = List.of("add", "mul", "min", "max", "same", "both", "either");

    @SuppressWarnings("serial")
    static final class Fault extends RuntimeException {
        final int code;

        Fault(int kind, int place) {
            super(null, null, false, false);
            code = kind + 16 * place;
        }
    }

    record Token(char kind, String text, int place) {
        boolean is(String word) {
            return kind == 'w' && text.equals(word);
        }

        boolean name() {
            return kind == 'w' && !RESERVED.contains(text) && !OPS.contains(text);
        }

        Fault fault(int kind) {
            return new Fault(kind, place);
        }
    }

    interface Line { }

    record InputLine(String name, int number) implements Line { }

    record IsLine(Token name, Token op, List<Token> args) implements Line { }

    record WhenLine(Token first, Token arg, List<Line> yes, List<Line> no, Token end, List<String> ahead, int k)
        implements Line { }

    record TimesLine(Token first, int times, List<Line> body) implements Line { }

    record ShowLine(Token first, Token arg) implements Line { }

    record Input(boolean given, int low, int high) { }

    record Value(String made, List<Integer> args, boolean flag, boolean uniform) { }

    /** A text that was read without a fault, worked into values. */
    static final class Shader {
        List<Line> lines = new ArrayList<>();
        List<Input> inputs = new ArrayList<>();
        int fetch = 4;
        int alu = 8;
        int whens = 0;
        int names = 0;
        List<Value> values = new ArrayList<>();
        List<Integer> shown = new ArrayList<>();
        TreeSet<Integer> parted = new TreeSet<>();
    }

    // ---- tokens

    static List<Token> tokens(String text) {
        List<Token> tokens = new ArrayList<>();
        int i = 0;
        while (i < text.length()) {
            char c = text.charAt(i);
            int j = i + 1;
            if (c == ' ' || c == '\n') {
                i++;
                continue;
            }
            if (Character.isLowerCase(c)) {
                while (j < text.length() && Character.isLowerCase(text.charAt(j))) {
                    j++;
                }
                tokens.add(new Token(j - i <= 7 ? 'w' : '?', text.substring(i, j), i));
            } else if (Character.isDigit(c)) {
                while (j < text.length() && Character.isDigit(text.charAt(j))) {
                    j++;
                }
                tokens.add(new Token(j - i <= 3 ? 'n' : '?', text.substring(i, j), i));
            } else {
                tokens.add(new Token(c == ';' ? ';' : '?', "" + c, i));
            }
            i = j;
        }
        tokens.add(new Token('$', "", text.length()));
        return tokens;
    }

    // ---- reading

    static final class Reading {
        final List<Token> tokens;
        final Shader shader = new Shader();
        int at = 0;
        boolean fetchTold = false;
        boolean aluTold = false;
        final List<String> inputNames = new ArrayList<>();

        Reading(String text) {
            tokens = tokens(text);
        }

        Token next() {
            Token token = tokens.get(at);
            at++;
            return token;
        }

        void semicolon() {
            Token token = next();
            if (token.kind() != ';') {
                throw token.fault(1);
            }
        }

        int number(int low, int high) {
            Token token = next();
            if (token.kind() != 'n') {
                throw token.fault(1);
            }
            int number = Integer.parseInt(token.text());
            if (number < low || number > high) {
                throw token.fault(4);
            }
            return number;
        }

        Shader read() {
            LinkedHashMap<String, Boolean> told = new LinkedHashMap<>();
            shader.lines = lines(told, 0, false, "");
            shader.names = told.size();
            return shader;
        }

        /** Lines up to what ends them, which is taken, too: within is "", "when", "else" or "times". */
        List<Line> lines(LinkedHashMap<String, Boolean> told, int depth, boolean inWhen, String within) {
            List<Line> lines = new ArrayList<>();
            while (true) {
                Token first = next();
                if (first.kind() == '$') {
                    if (depth > 0) {
                        throw first.fault(1);
                    }
                    return lines;
                }
                if (first.is("end") && depth > 0 || first.is("else") && within.equals("when")) {
                    return lines;
                }
                Line line = line(first, told, depth, inWhen);
                if (line != null) {
                    lines.add(line);
                }
            }
        }

        Line line(Token first, LinkedHashMap<String, Boolean> told, int depth, boolean inWhen) {
            if (first.name()) {
                return isLine(first, told);
            }
            boolean head = first.is("given") || first.is("lane") || first.is("fetch") || first.is("alu");
            boolean block = first.is("when") || first.is("times");
            if (head && depth > 0 || first.is("show") && inWhen || !head && !block && !first.is("show")) {
                throw first.fault(1);
            }
            if (block) {
                if (depth == 4) {
                    throw first.fault(5);
                }
                return first.is("when") ? whenLine(first, told, depth) : timesLine(first, told, depth, inWhen);
            }
            if (first.is("show")) {
                Token arg = next();
                if (type(arg, told)) {
                    throw arg.fault(6);
                }
                semicolon();
                return new ShowLine(first, arg);
            }
            return head(first, told);
        }

        Line head(Token first, LinkedHashMap<String, Boolean> told) {
            if (first.is("fetch") || first.is("alu")) {
                if (first.is("fetch") ? fetchTold : aluTold) {
                    throw first.fault(3);
                }
                if (first.is("fetch")) {
                    fetchTold = true;
                    shader.fetch = number(1, 8);
                } else {
                    aluTold = true;
                    shader.alu = number(1, 16);
                }
                semicolon();
                return null;
            }
            if (shader.inputs.size() == 6) {
                throw first.fault(5);
            }
            Token name = next();
            if (!name.name()) {
                throw name.fault(1);
            }
            if (told.containsKey(name.text())) {
                throw name.fault(3);
            }
            if (told.size() == 20) {
                throw name.fault(5);
            }
            int low = number(0, 999);
            int high = number(low, 999);
            semicolon();
            told.put(name.text(), false);
            inputNames.add(name.text());
            shader.inputs.add(new Input(first.is("given"), low, high));
            return new InputLine(name.text(), shader.inputs.size() - 1);
        }

        Line whenLine(Token first, LinkedHashMap<String, Boolean> told, int depth) {
            Token arg = next();
            if (!type(arg, told)) {
                throw arg.fault(6);
            }
            semicolon();
            int k = shader.whens;
            shader.whens++;
            List<Line> yes = lines(new LinkedHashMap<>(told), depth + 1, true, "when");
            List<Line> no = new ArrayList<>();
            Token last = tokens.get(at - 1);
            if (last.is("else")) {
                semicolon();
                no = lines(new LinkedHashMap<>(told), depth + 1, true, "else");
                last = tokens.get(at - 1);
            }
            semicolon();
            return new WhenLine(first, arg, yes, no, last, new ArrayList<>(told.keySet()), k);
        }

        Line timesLine(Token first, LinkedHashMap<String, Boolean> told, int depth, boolean inWhen) {
            int times = number(2, 9);
            semicolon();
            List<Line> body = lines(told, depth + 1, inWhen, "times");
            semicolon();
            return new TimesLine(first, times, body);
        }

        /** Whether an arg is a FLAG. */
        boolean type(Token arg, Map<String, Boolean> told) {
            if (arg.kind() == 'n') {
                return false;
            }
            if (!arg.name()) {
                throw arg.fault(1);
            }
            if (!told.containsKey(arg.text())) {
                throw arg.fault(2);
            }
            return told.get(arg.text());
        }

        Line isLine(Token name, LinkedHashMap<String, Boolean> told) {
            Boolean had = told.get(name.text());
            if (inputNames.contains(name.text()) && had != null) {
                throw name.fault(3);
            }
            if (had == null && told.size() == 20) {
                throw name.fault(5);
            }
            Token is = next();
            if (!is.is("is")) {
                throw is.fault(1);
            }
            Token op = next();
            if (op.kind() != 'w' || !OPS.contains(op.text())) {
                throw op.fault(1);
            }
            String form = switch (op.text()) {
                case "tex" -> "nN";
                case "less", "same" -> "nnF";
                case "both", "either" -> "ffF";
                case "flip" -> "fF";
                case "pick" -> "f?=?";
                case "copy" -> "??";
                default -> "nnN";
            };
            char made = form.charAt(form.length() - 1);
            if (had != null && made != '?' && (made == 'F') != had) {
                throw op.fault(6);
            }
            List<Token> args = new ArrayList<>();
            boolean last = false;
            for (int k = 0; k < form.length() - 1; k++) {
                Token arg = next();
                boolean flag = type(arg, told);
                boolean wrong = switch (form.charAt(k)) {
                    case 'n' -> flag;
                    case 'f' -> !flag;
                    case '=' -> flag != last;
                    default -> had != null && had != flag;
                };
                if (wrong) {
                    throw arg.fault(6);
                }
                last = flag;
                args.add(arg);
            }
            semicolon();
            told.put(name.text(), made == '?' ? last : made == 'F');
            return new IsLine(name, op, args);
        }
    }

    // ---- working

    static final class Working {
        final Shader shader;
        final Map<String, Integer> single = new HashMap<>();
        int worked = 0;

        Working(Shader shader) {
            this.shader = shader;
            for (int i = 0; i < shader.inputs.size(); i++) {
                shader.values.add(new Value("input", List.of(i), false, shader.inputs.get(i).given()));
            }
        }

        void count(Token first) {
            worked++;
            if (worked > 200) {
                throw first.fault(5);
            }
        }

        int value(String made, List<Integer> args, Token token) {
            List<Integer> turned = new ArrayList<>(args);
            if (TURNABLE.contains(made)) {
                turned.sort(null);
            }
            String key = made + turned;
            if (!single.containsKey(key)) {
                if (shader.values.size() == 64) {
                    throw token.fault(5);
                }
                boolean uniform = true;
                boolean flag = List.of("less", "same", "both", "either", "flip").contains(made);
                if (!made.equals("number")) {
                    for (int arg : turned) {
                        uniform &= shader.values.get(arg).uniform();
                    }
                    flag |= made.equals("pick") && shader.values.get(turned.get(1)).flag();
                }
                single.put(key, shader.values.size());
                shader.values.add(new Value(made, turned, flag, uniform));
            }
            return single.get(key);
        }

        int arg(Token arg, Map<String, Integer> names) {
            return arg.kind() == 'n' ? value("number", List.of(Integer.parseInt(arg.text())), arg)
                : names.get(arg.text());
        }

        void work(List<Line> lines, Map<String, Integer> names) {
            for (Line line : lines) {
                if (line instanceof InputLine input) {
                    names.put(input.name(), input.number());
                } else if (line instanceof IsLine is) {
                    count(is.name());
                    List<Integer> args = new ArrayList<>();
                    for (Token arg : is.args()) {
                        args.add(arg(arg, names));
                    }
                    String op = is.op().text();
                    if (op.equals("copy")) {
                        names.put(is.name().text(), args.get(0));
                    } else if (op.equals("pick") && args.get(1).equals(args.get(2))) {
                        names.put(is.name().text(), args.get(1));
                    } else {
                        names.put(is.name().text(), value(op, args, is.op()));
                    }
                } else if (line instanceof ShowLine show) {
                    count(show.first());
                    if (shader.shown.size() == 8) {
                        throw show.first().fault(5);
                    }
                    shader.shown.add(arg(show.arg(), names));
                } else if (line instanceof TimesLine times) {
                    count(times.first());
                    for (int i = 0; i < times.times(); i++) {
                        work(times.body(), names);
                    }
                } else if (line instanceof WhenLine when) {
                    workWhen(when, names);
                }
            }
        }

        void workWhen(WhenLine when, Map<String, Integer> names) {
            count(when.first());
            int flag = arg(when.arg(), names);
            if (!shader.values.get(flag).uniform()) {
                shader.parted.add(when.k());
            }
            Map<String, Integer> yes = new HashMap<>(names);
            Map<String, Integer> no = new HashMap<>(names);
            work(when.yes(), yes);
            work(when.no(), no);
            for (String name : when.ahead()) {
                int a = yes.get(name);
                int b = no.get(name);
                names.put(name, a == b ? a : value("pick", List.of(flag, a, b), when.end()));
            }
        }
    }

    /** The shader of a text; throws its fault. */
    static Shader shader(String text) {
        Shader shader = new Reading(text).read();
        new Working(shader).work(shader.lines, new HashMap<>());
        return shader;
    }

    // ---- what can be set

    final int[] table = new int[16];
    Shader shader = new Shader();
    int[][] lanes = new int[0][4];
    int[][] ranges = new int[0][2];
    int rule = 0;

    int read(String text) {
        try {
            shader = shader(text);
        } catch (Fault fault) {
            return fault.code;
        }
        lanes = new int[shader.inputs.size()][4];
        ranges = new int[shader.inputs.size()][2];
        for (int i = 0; i < lanes.length; i++) {
            ranges[i][0] = shader.inputs.get(i).low();
            ranges[i][1] = shader.inputs.get(i).high();
            java.util.Arrays.fill(lanes[i], ranges[i][0]);
        }
        return 0;
    }

    // ---- numbers

    static int hold(long number) {
        return number > 99999 ? 99999 : number < -99999 ? -99999 : (int) number;
    }

    int op(String op, int a, int b, int c) {
        return switch (op) {
            case "add" -> hold((long) a + b);
            case "sub" -> hold((long) a - b);
            case "mul" -> hold((long) a * b);
            case "min" -> a < b ? a : b;
            case "max" -> a > b ? a : b;
            case "tex" -> table[(a % 16 + 16) % 16];
            case "less" -> a < b ? 1 : 0;
            case "same" -> a == b ? 1 : 0;
            case "both" -> a == 1 && b == 1 ? 1 : 0;
            case "either" -> a == 1 || b == 1 ? 1 : 0;
            case "flip" -> a == 1 ? 0 : 1;
            case "pick" -> a == 1 ? b : c;
            case "copy" -> a;
            default -> throw new IllegalStateException(op);
        };
    }

    int is(int value, int lane) {
        Value v = shader.values.get(value);
        if (v.made().equals("input")) {
            return lanes[v.args().get(0)][lane];
        }
        if (v.made().equals("number")) {
            return v.args().get(0);
        }
        int[] args = new int[3];
        for (int k = 0; k < v.args().size(); k++) {
            args[k] = is(v.args().get(k), lane);
        }
        return op(v.made(), args[0], args[1], args[2]);
    }

    List<Integer> walk(int lane) {
        List<Integer> shown = new ArrayList<>();
        walk(shader.lines, new HashMap<>(), lane, shown);
        return shown;
    }

    private static int told(Token arg, Map<String, Integer> names) {
        return arg.kind() == 'n' ? Integer.parseInt(arg.text()) : names.get(arg.text());
    }

    private void walk(List<Line> lines, Map<String, Integer> names, int lane, List<Integer> shown) {
        for (Line line : lines) {
            if (line instanceof InputLine input) {
                names.put(input.name(), lanes[input.number()][lane]);
            } else if (line instanceof IsLine is) {
                int[] args = new int[3];
                for (int k = 0; k < is.args().size(); k++) {
                    args[k] = told(is.args().get(k), names);
                }
                names.put(is.name().text(), op(is.op().text(), args[0], args[1], args[2]));
            } else if (line instanceof ShowLine show) {
                shown.add(told(show.arg(), names));
            } else if (line instanceof TimesLine times) {
                for (int i = 0; i < times.times(); i++) {
                    walk(times.body(), names, lane, shown);
                }
            } else if (line instanceof WhenLine when) {
                Map<String, Integer> part = new HashMap<>(names);
                walk(told(when.arg(), names) == 1 ? when.yes() : when.no(), part, lane, shown);
                for (String name : when.ahead()) {
                    names.put(name, part.get(name));
                }
            }
        }
    }

    // ---- a view: ranges, needs, an order, and what follows

    final class View {
        final int[][] ends;
        final List<Integer> shown;
        final int rule;
        final TreeSet<Integer> needed = new TreeSet<>();
        final TreeSet<Integer> kept = new TreeSet<>();
        List<Integer> order = new ArrayList<>();
        final TreeMap<Integer, Integer> registers = new TreeMap<>();
        final int[] used = new int[2];
        final List<List<Integer>> clauses = new ArrayList<>();

        View(int[][] given, List<Integer> shown, int rule) {
            this.shown = shown;
            this.rule = rule;
            ends = new int[shader.values.size()][];
            for (int v = 0; v < ends.length; v++) {
                ends[v] = range(shader.values.get(v), given);
            }
            for (int s : shown) {
                if (!known(stands(s))) {
                    kept.add(stands(s));
                    need(stands(s));
                }
            }
            while (order.size() < needed.size()) {
                order.add(next());
            }
            settle();
        }

        void settle() {
            registers.clear();
            clauses.clear();
            used[0] = 0;
            used[1] = 0;
            allot();
            cut();
        }

        int[] range(Value v, int[][] given) {
            List<Integer> args = v.args();
            switch (v.made()) {
                case "input": return given[args.get(0)].clone();
                case "number": return new int[] {args.get(0), args.get(0)};
                case "tex": return new int[] {0, 999};
                case "flip": return spread(1 - ends[args.get(0)][0], 1 - ends[args.get(0)][1]);
                default: break;
            }
            int[] a = ends[args.get(0)];
            int[] b = ends[args.get(1)];
            switch (v.made()) {
                case "pick":
                    int[] c = ends[args.get(2)];
                    return a[0] == 1 ? b.clone() : a[1] == 0 ? c.clone() : spread(b[0], b[1], c[0], c[1]);
                case "less":
                    return a[1] < b[0] ? new int[] {1, 1} : a[0] >= b[1] ? new int[] {0, 0} : new int[] {0, 1};
                case "same":
                    return a[0] == a[1] && a[1] == b[0] && b[0] == b[1] ? new int[] {1, 1}
                        : Math.max(a[0], b[0]) > Math.min(a[1], b[1]) ? new int[] {0, 0} : new int[] {0, 1};
                default:
                    return spread(op(v.made(), a[0], b[0], 0), op(v.made(), a[0], b[1], 0),
                        op(v.made(), a[1], b[0], 0), op(v.made(), a[1], b[1], 0));
            }
        }

        private int[] spread(int... all) {
            int[] sorted = all.clone();
            java.util.Arrays.sort(sorted);
            return new int[] {sorted[0], sorted[sorted.length - 1]};
        }

        boolean known(int v) {
            return ends[v][0] == ends[v][1];
        }

        boolean low(int v) {
            return !shader.values.get(v).flag() && ends[v][0] >= -512 && ends[v][1] <= 511;
        }

        int width(int v) {
            return shader.values.get(v).flag() || low(v) ? 1 : 2;
        }

        int stands(int v) {
            Value value = shader.values.get(v);
            if (!value.made().equals("pick") || known(v) || !known(value.args().get(0))) {
                return v;
            }
            return stands(value.args().get(ends[value.args().get(0)][0] == 1 ? 1 : 2));
        }

        final Map<Integer, TreeSet<Integer>> sourcesOf = new HashMap<>();
        final Map<Integer, TreeSet<Integer>> usersOf = new HashMap<>();

        TreeSet<Integer> sources(int v) {
            return sourcesOf.computeIfAbsent(v, this::findSources);
        }

        TreeSet<Integer> findSources(int v) {
            TreeSet<Integer> sources = new TreeSet<>();
            Value value = shader.values.get(v);
            if (!value.made().equals("input") && !value.made().equals("number")) {
                for (int arg : value.args()) {
                    if (!known(stands(arg))) {
                        sources.add(stands(arg));
                    }
                }
            }
            return sources;
        }

        void need(int v) {
            if (needed.add(v)) {
                for (int s : sources(v)) {
                    need(s);
                }
            }
        }

        TreeSet<Integer> users(int v) {
            return usersOf.computeIfAbsent(v, this::findUsers);
        }

        TreeSet<Integer> findUsers(int v) {
            TreeSet<Integer> users = new TreeSet<>();
            for (int u : needed) {
                if (sources(u).contains(v)) {
                    users.add(u);
                }
            }
            return users;
        }

        final Map<Integer, Integer> heights = new HashMap<>();

        int height(int v) {
            if (!heights.containsKey(v)) {
                int most = 0;
                for (int u : users(v)) {
                    most = Math.max(most, height(u));
                }
                heights.put(v, most + 1);
            }
            return heights.get(v);
        }

        TreeSet<Integer> closure(int v, boolean up) {
            TreeSet<Integer> all = new TreeSet<>();
            List<Integer> open = new ArrayList<>(List.of(v));
            while (!open.isEmpty()) {
                int x = open.remove(open.size() - 1);
                for (int y : up ? users(x) : sources(x)) {
                    if (all.add(y)) {
                        open.add(y);
                    }
                }
            }
            return all;
        }

        int living(List<Integer> placed) {
            int sum = 0;
            for (int v : placed) {
                if (kept.contains(v) || !placed.containsAll(users(v))) {
                    sum += width(v);
                }
            }
            return sum;
        }

        int next() {
            TreeSet<Integer> ready = new TreeSet<>();
            for (int v : needed) {
                if (!order.contains(v) && order.containsAll(sources(v))) {
                    ready.add(v);
                }
            }
            java.util.Comparator<Integer> by = switch (rule) {
                case 0 -> java.util.Comparator.<Integer>comparingInt(v -> {
                    List<Integer> then = new ArrayList<>(order);
                    then.add(v);
                    return living(then);
                }).thenComparing(v -> -height(v));
                case 1 -> java.util.Comparator.comparingInt(v -> v);
                case 2 -> java.util.Comparator.comparingInt(v -> -height(v));
                default -> java.util.Comparator.comparingInt(v -> shader.values.get(v).made().equals("tex") ? 0 : 1);
            };
            return java.util.Collections.min(ready, by.thenComparing(v -> v));
        }

        int ends(int v) {
            int last = kept.contains(v) ? order.size() : -1;
            for (int u : users(v)) {
                last = Math.max(last, order.indexOf(u));
            }
            return last;
        }

        int file(int v) {
            return shader.values.get(v).uniform() ? 0 : 1;
        }

        int pressure(int place, int file) {
            int sum = 0;
            for (int p = 0; p <= place; p++) {
                int v = order.get(p);
                sum += ends(v) > place && (file == 2 || file == file(v)) ? width(v) : 0;
            }
            return sum;
        }

        int pressure(int file) {
            int most = 0;
            for (int p = 0; p < order.size(); p++) {
                most = Math.max(most, pressure(p, file));
            }
            return most;
        }

        void allot() {
            List<TreeSet<Integer>> taken = List.of(new TreeSet<>(), new TreeSet<>());
            for (int p = 0; p < order.size(); p++) {
                for (int q = 0; q < p; q++) {
                    int w = order.get(q);
                    if (ends(w) == p) {
                        for (int h = 0; h < width(w); h++) {
                            taken.get(file(w)).remove(registers.get(w) + h);
                        }
                    }
                }
                int v = order.get(p);
                TreeSet<Integer> mine = taken.get(file(v));
                int half = 0;
                while (mine.contains(half) || width(v) == 2 && (half % 2 == 1 || mine.contains(half + 1))) {
                    half++;
                }
                registers.put(v, half);
                for (int h = 0; h < width(v); h++) {
                    mine.add(half + h);
                }
                used[file(v)] = Math.max(used[file(v)], half + width(v));
            }
        }

        boolean tex(int v) {
            return shader.values.get(v).made().equals("tex");
        }

        void cut() {
            for (int v : order) {
                List<Integer> last = clauses.isEmpty() ? null : clauses.get(clauses.size() - 1);
                boolean joins = last != null && tex(last.get(0)) == tex(v)
                    && last.size() < (tex(v) ? shader.fetch : shader.alu);
                if (joins && tex(v)) {
                    for (int s : sources(v)) {
                        joins &= !last.contains(s);
                    }
                }
                if (!joins) {
                    last = new ArrayList<>();
                    clauses.add(last);
                }
                last.add(v);
            }
        }

        int clauseOf(int v) {
            for (int k = 0; k < clauses.size(); k++) {
                if (clauses.get(k).contains(v)) {
                    return k;
                }
            }
            return -1;
        }

        int cycles(int k) {
            int sum = tex(clauses.get(k).get(0)) ? 12 : 2;
            for (int v : clauses.get(k)) {
                Value value = shader.values.get(v);
                if (tex(v)) {
                    sum += 2;
                } else if (value.uniform() || value.made().equals("input")) {
                    sum += 1;
                } else {
                    sum += width(v) * (value.made().equals("mul") ? 2 : 1);
                }
            }
            return sum;
        }

        int cycles() {
            int sum = 0;
            for (int k = 0; k < clauses.size(); k++) {
                sum += cycles(k);
            }
            return sum;
        }

        int cost(int what) {
            return switch (what) {
                case 0 -> pressure(2);
                case 1 -> clauses.size();
                case 2 -> cycles();
                case 3 -> used[0];
                case 4 -> used[1];
                case 5 -> needed.size();
                default -> -1;
            };
        }

        final Map<TreeSet<Integer>, Integer> memo = new HashMap<>();

        /** The least of the highest pressure from a set of placed ones on. */
        int best(TreeSet<Integer> placed) {
            if (placed.size() == needed.size()) {
                return 0;
            }
            Integer had = memo.get(placed);
            if (had != null) {
                return had;
            }
            int least = Integer.MAX_VALUE;
            for (int v : needed) {
                if (!placed.contains(v) && placed.containsAll(sources(v))) {
                    TreeSet<Integer> then = new TreeSet<>(placed);
                    then.add(v);
                    least = Math.min(least, Math.max(living(new ArrayList<>(then)), best(then)));
                }
            }
            memo.put(placed, least);
            return least;
        }

        /** The lowest and the highest place of each needed one, by trying all orders. */
        void tryAll(List<Integer> placed, Map<Integer, int[]> places) {
            for (int v : needed) {
                if (!placed.contains(v) && placed.containsAll(sources(v))) {
                    int[] ends = places.computeIfAbsent(v, x -> new int[] {99, -1});
                    ends[0] = Math.min(ends[0], placed.size());
                    ends[1] = Math.max(ends[1], placed.size());
                    placed.add(v);
                    tryAll(placed, places);
                    placed.remove(placed.size() - 1);
                }
            }
        }
    }
}
