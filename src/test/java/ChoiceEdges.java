/** What another RULE, one SHOWN alone, another RANGE, an exchange would change: promises 24 to 27. */
final class ChoiceEdges {
    private static final int NONE = -1;
    private static final int[] FAR = {-1, -2, 64, 65, 1000, 1 << 20, Integer.MIN_VALUE, Integer.MAX_VALUE};
    /** VALUES: u 0, x 1, y 2, s 3, t 4, m 5; by RULE 0 the ORDER is 0 1 3 4 2 5. */
    private static final String PLAIN = "given u 2 5;lane x 0 20;lane y 0 999;s is add x u;t is tex s;m is mul x y;show m;show t;";
    /** VALUES: x 0, 1 1, b 2, a 3 (tex), c 4 (tex), d 5. */
    private static final String FETCHES = "lane x 0 9;b is add x 1;a is tex x;c is tex b;d is add a c;show d;";

    private final Sentences s;

    ChoiceEdges(Sentences s) {
        this.s = s;
    }

    void ask() {
        s.each(this::allElseAsNow, this::byOthers, this::aloneShown, this::aloneByTheRule, this::aloneOthers,
            this::narrowedLimits, this::narrowedWhatever, this::narrowedWhats, this::narrowedOthers, this::swappedNext,
            this::swappedSource, this::swappedOthers, this::byWhats, this::swappedWhats);
    }

    private void allElseAsNow() {
        s.of(24, "By a RULE, all else as now");
        ShaderReady x = Due.of(FETCHES);
        int[] clauses = {3, 3, 3, 5};
        int[] cycles = {24, 24, 24, 38};
        for (int now = 0; now < 4; now++) {
            x.rule(now);
            for (int rule = 0; rule < 4; rule++) {
                s.due("by(" + rule + ", 1) at RULE " + now, x.by(rule, 1), clauses[rule]);
                s.due("by(" + rule + ", 2) at RULE " + now, x.by(rule, 2), cycles[rule]);
            }
            s.due("the RULE stays", x.count(9), now);
            s.due("the CLAUSES stay", x.count(5), clauses[now]);
            s.due("the ORDER stays", x.order(1), now == 3 ? 3 : 2);
        }
        ShaderReady narrowed = Due.of(PLAIN);
        int[] wide = {5, 3, 26, 1, 6};
        for (int what = 0; what < wide.length; what++) {
            s.due("by(0, " + what + ")", narrowed.by(0, what), wide[what]);
        }
        narrowed.narrow(2, 0, 4);
        s.due("by the RANGE there is now", narrowed.by(0, 0), 3);
        s.due("fetch and alu as told", Due.of("alu 1;" + FETCHES).by(0, 1), 4);
        s.due("nothing", new ShaderReady().by(3, 2), 0);
    }

    private void byOthers() {
        s.of(24, "3, 4: USED of FILE 0, 1; NONE: others.");
        ShaderReady x = Due.of(PLAIN);
        s.due("by(3, 4)", x.by(3, 4), 6);
        s.due("by(4, 0)", x.by(4, 0), NONE);
        s.due("by(0, 5)", x.by(0, 5), NONE);
        for (int far : FAR) {
            s.due("by(" + far + ", 0)", x.by(far, 0), NONE);
            s.due("by(0, " + far + ")", x.by(0, far), NONE);
        }
    }

    private void aloneShown() {
        s.of(25, "If the i-th SHOWN alone were SHOWN");
        ShaderReady x = Due.of(PLAIN);
        int[][] want = {{3, 1, 8, 0, 4, 3}, {2, 2, 19, 1, 2, 4}};
        for (int i = 0; i < 2; i++) {
            for (int what = 0; what < 6; what++) {
                s.due("alone(" + i + ", " + what + ")", x.alone(i, what), want[i][what]);
            }
        }
        s.due("all stays", x.count(3), 6);
        s.due("the SHOWN stay", x.count(2), 2);
        ShaderReady known = Due.of("lane a 0 9;show 4;show a;");
        for (int what = 0; what < 6; what++) {
            s.due("a KNOWN one: " + what, known.alone(0, what), 0);
        }
        ShaderReady twice = Due.of("lane a 0 9;b is add a 1;show b;show a;show b;");
        s.due("one that is SHOWN twice", twice.alone(2, 5), 2);
        // alone, a is not kept any more
        s.due("a ends by b", twice.alone(0, 0), 1);
        s.due("of all SHOWN", twice.pressure(2), 2);
    }

    private void aloneByTheRule() {
        s.of(25, "what 0 to 4 as by() (by the RULE there is)");
        ShaderReady x = Due.of(FETCHES);
        s.due("RULE 0", x.alone(0, 1), 3);
        x.rule(3);
        s.due("RULE 3", x.alone(0, 1), 5);
        s.due("by() goes by its own", x.by(0, 1), 3);
    }

    private void aloneOthers() {
        s.of(25, "5: how many are NEEDED; NONE: others.");
        ShaderReady x = Due.of(PLAIN);
        s.due("alone(1, 5)", x.alone(1, 5), 4);
        s.due("alone(2, 0)", x.alone(2, 0), NONE);
        s.due("alone(0, 6)", x.alone(0, 6), NONE);
        for (int far : FAR) {
            s.due("alone(" + far + ", 0)", x.alone(far, 0), NONE);
            s.due("alone(0, " + far + ")", x.alone(0, far), NONE);
        }
        s.due("nothing SHOWN", Due.of("lane a 0 9;").alone(0, 0), NONE);
    }

    private void narrowedLimits() {
        s.of(26, "If an INPUT had that RANGE (0 to 999, low no more than high)");
        ShaderReady x = Due.of(PLAIN);
        s.due("0 to 999", x.narrowed(2, 0, 999, 5), 6);
        s.due("-1 to 999", x.narrowed(2, -1, 999, 5), NONE);
        s.due("0 to 1,000", x.narrowed(2, 0, 1000, 5), NONE);
        s.due("low is high", x.narrowed(2, 7, 7, 7), 1);
        s.due("low is high of the first INPUT", x.narrowed(0, 3, 3, 7), 1);
        s.due("low above high", x.narrowed(2, 8, 7, 7), NONE);
        s.due("999 to 999", x.narrowed(2, 999, 999, 7), 1);
        s.due("0 to 0", x.narrowed(2, 0, 0, 7), 2);
    }

    private void narrowedWhatever() {
        s.of(26, "whatever it is in LANES");
        ShaderReady x = Due.of(PLAIN);
        x.set(2, 1, 500);
        s.holds("narrow would not", !x.narrow(2, 3, 4));
        s.due("LOW", x.narrowed(2, 3, 4, 6), 5);
        s.due("it stays in LANE 1", x.input(2, 5), 500);
        s.due("low stays", x.input(2, 1), 0);
        s.due("high stays", x.input(2, 2), 999);
        s.due("LOW stays", x.count(4), 3);
        s.due("RANGE of m stays", x.range(5, 1), 19980);
        s.due("wider than told", x.narrowed(0, 0, 999, 6), 1);
        s.due("best stays", x.best(), 4);
    }

    private void narrowedWhats() {
        s.of(26, "what 0 to 5 as alone(), of all SHOWN, 6: how many are LOW, 7: KNOWN");
        ShaderReady x = Due.of(PLAIN);
        int[] want = {3, 2, 22, 1, 4, 6, 5, 0};
        for (int what = 0; what < want.length; what++) {
            s.due("narrowed(2, 3, 4, " + what + ")", x.narrowed(2, 3, 4, what), want[what]);
        }
        ShaderReady fetches = Due.of(FETCHES);
        s.due("by RULE 0", fetches.narrowed(0, 0, 5, 1), 3);
        fetches.rule(3);
        s.due("by the RULE there is", fetches.narrowed(0, 0, 5, 1), 5);
        s.due("a KNOWN INPUT leaves texs of KNOWN ones", fetches.narrowed(0, 4, 4, 5), 3);
    }

    private void narrowedOthers() {
        s.of(26, "6: how many are LOW, 7: KNOWN; NONE: others.");
        ShaderReady x = Due.of(PLAIN);
        s.due("no fourth INPUT", x.narrowed(3, 0, 1, 0), NONE);
        s.due("what 8", x.narrowed(0, 0, 1, 8), NONE);
        for (int far : FAR) {
            s.due("narrowed(" + far + ", 0, 1, 0)", x.narrowed(far, 0, 1, 0), NONE);
            s.due("narrowed(0, " + far + ", 1, 0)", x.narrowed(0, far, 1, 0), NONE);
            s.due("narrowed(0, 0, 1, " + far + ")", x.narrowed(0, 0, 1, far), NONE);
            if (far < 0 || far > 999) {
                s.due("narrowed(0, 0, " + far + ", 0)", x.narrowed(0, 0, far, 0), NONE);
            }
        }
        s.due("no INPUT", Due.of("show 1;").narrowed(0, 0, 1, 0), NONE);
    }

    private void swappedNext() {
        s.of(27, "If the VALUES at a PLACE and the next one changed places");
        ShaderReady x = Due.of(FETCHES);
        // x b a c d: b and a changed makes x | a | b | c | d
        s.due("CLAUSES", x.swapped(1, 1), 5);
        s.due("CYCLES", x.swapped(1, 2), 38);
        s.due("the ORDER stays", x.order(1), 2);
        s.due("the CLAUSES stay", x.count(5), 3);
        s.due("a and c", x.swapped(2, 1), 3);
        // a y b c: 2 4 3 2; a b y c: 2 1 3 2; a y c b: 2 4 3 2
        ShaderReady wide = Due.of("lane a 0 999;lane y 0 999;b is min a 3;c is min y 2;show b;show c;");
        wide.rule(1);
        s.due("PRESSURE now", wide.pressure(2), 4);
        s.due("a, y changed", wide.swapped(0, 0), 4);
        s.due("y, b changed", wide.swapped(1, 0), 3);
        s.due("b, c changed", wide.swapped(2, 0), 4);
        s.due("the PRESSURE stays", wide.pressure(2), 4);
    }

    private void swappedSource() {
        s.of(27, "no such PLACES, the one is a SOURCE of the other one");
        ShaderReady x = Due.of(PLAIN);
        // 0 1 3 4 2 5
        int[] want = {5, NONE, NONE, 5, NONE, NONE};
        for (int p = 0; p < want.length; p++) {
            s.due("swapped(" + p + ", 0)", x.swapped(p, 0), want[p]);
        }
        // by what it stands for: p is picked, a its SOURCE
        ShaderReady stands = Due.of("lane a 0 9;f is less a 50;p is pick f a 7;b is add p 1;show b;");
        s.due("a SOURCE by what an ARG stands for", stands.swapped(0, 0), NONE);
    }

    private void swappedOthers() {
        s.of(27, "2: CYCLES; NONE: others, no such PLACES");
        ShaderReady x = Due.of(PLAIN);
        s.due("swapped(0, 2)", x.swapped(0, 2), 26);
        s.due("swapped(0, 3)", x.swapped(0, 3), NONE);
        s.due("the last has no next one", x.swapped(5, 0), NONE);
        s.due("behind the last", x.swapped(6, 0), NONE);
        for (int far : FAR) {
            s.due("swapped(" + far + ", 0)", x.swapped(far, 0), NONE);
            s.due("swapped(0, " + far + ")", x.swapped(0, far), NONE);
        }
        s.due("one alone", Due.of("lane a 0 9;show a;").swapped(0, 0), NONE);
        s.due("none", new ShaderReady().swapped(0, 0), NONE);
    }

    private void byWhats() {
        s.of(24, "all else as now, what 0: PRESSURE of both FILES together, 1: CLAUSES, 2: CYCLES");
        ShaderReady x = Due.of(PLAIN);
        for (int rule = 0; rule < 4; rule++) {
            ShaderReady same = Due.of(PLAIN);
            same.rule(rule);
            s.due("PRESSURE by " + rule, x.by(rule, 0), same.pressure(2));
            s.due("CLAUSES by " + rule, x.by(rule, 1), same.count(5));
            s.due("CYCLES by " + rule, x.by(rule, 2), same.count(6));
            s.due("USED of FILE 0 by " + rule, x.by(rule, 3), same.used(0));
            s.due("USED of FILE 1 by " + rule, x.by(rule, 4), same.used(1));
        }
        s.due("PRESSURE by 0", x.by(0, 0), 5);
    }

    private void swappedWhats() {
        s.of(27, "changed places, what 0: PRESSURE of both FILES together, 1: CLAUSES, 2: CYCLES");
        ShaderReady x = Due.of(PLAIN);
        // u x s y t m: 1 2 2 4 5 4; u x s y | t | m: 6, 14, 6
        int[] want = {5, 3, 26};
        for (int what = 0; what < want.length; what++) {
            s.due("swapped(3, " + what + ")", x.swapped(3, what), want[what]);
        }
        ShaderReady both = Due.of("given g 0 999;lane a 0 9;b is min a 3;h is min g 2;show b;show h;");
        both.rule(1);
        // g a b h: 2 3 3 2; a g b h the same; g a h b: 2 3 2 2
        s.due("both FILES together", both.swapped(0, 0), 3);
    }
}
