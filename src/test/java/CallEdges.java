/** What is set and told of INPUTS, TABLE, RULE, and what is counted: promises 4 to 8 and 30. */
final class CallEdges {
    private static final int NONE = -1;
    private static final int[] FAR = {-1, -2, 64, 65, 1000, 1 << 20, Integer.MIN_VALUE, Integer.MAX_VALUE};
    private static final String TEXT = "lane a 3 9;given g 5 7;b is add a g;show b;";

    private final Sentences s;

    CallEdges(Sentences s) {
        this.s = s;
    }

    void ask() {
        s.each(this::setWithinItsRange, this::setGiven, this::setWhatItHad, this::setOthers, this::sixteenCells,
            this::cellWhatItWas, this::cellOthers, this::rules, this::ruleOthers, this::narrowInWhichItIs,
            this::narrowLimits, this::narrowOthers, this::narrowChanges, this::input, this::inputOthers, this::lanes,
            this::counts, this::namesAtTheEnd, this::countOthers, this::inputWhats);
    }

    private void setWithinItsRange() {
        s.of(4, "An INPUT has a number within its RANGE in a LANE");
        ShaderReady x = Due.of(TEXT);
        s.due("low", x.set(0, 0, 3), 3);
        s.due("high", x.set(0, 0, 9), 3);
        s.due("below", x.set(0, 0, 2), NONE);
        s.due("above", x.set(0, 0, 10), NONE);
        s.due("nothing of that stays", x.input(0, 4), 9);
        s.holds("narrow", x.narrow(0, 2, 10));
        s.due("below what was told", x.set(0, 0, 2), 9);
        s.due("above what was told", x.set(0, 1, 10), 3);
        s.due("below the RANGE there is", x.set(0, 2, 1), NONE);
        s.due("above the RANGE there is", x.set(0, 2, 11), NONE);
        s.due("LANES 0 alone", x.input(0, 5) * 100 + x.input(0, 6), 1003);
    }

    private void setGiven() {
        s.of(4, "(one of given: in all LANES, whichever is told)");
        for (int lane = 0; lane < 4; lane++) {
            ShaderReady x = Due.of(TEXT);
            s.due("set in LANE " + lane, x.set(1, lane, 6), 5);
            for (int other = 0; other < 4; other++) {
                s.due("in LANE " + other, x.input(1, 4 + other), 6);
                s.due("sum in LANE " + other, x.walked(other, 0), 9);
            }
            s.due("it had that in another one, too", x.set(1, 3 - lane, 7), 6);
        }
        // six of given, each set in its last LANE: no other one has it
        ShaderReady six = Due.of("given a 1 9;given b 1 9;given c 1 9;given d 1 9;given e 1 9;given g 1 9;");
        for (int i = 5; i >= 0; i--) {
            s.due("set of " + i, six.set(i, 3, i + 3), 1);
            for (int other = 0; other < 6; other++) {
                for (int lane = 0; lane < 4; lane++) {
                    s.due("INPUT " + other + " in LANE " + lane, six.input(other, 4 + lane), other < i ? 1 : other + 3);
                }
            }
        }
        ShaderReady one = Due.of(TEXT);
        one.set(0, 1, 8);
        s.due("one of lane: there alone", one.input(0, 4) * 1000 + one.input(0, 5) * 100 + one.input(0, 6) * 10 + one.input(0, 7), 3833);
    }

    private void setWhatItHad() {
        s.of(4, "what it had there; NONE: others.");
        ShaderReady x = Due.of("lane a 0 9;");
        s.due("0 at first", x.set(0, 3, 4), 0);
        s.due("4 then", x.set(0, 3, 4), 4);
        s.due("as ever in another LANE", x.set(0, 2, 5), 0);
        s.due("4 still", x.set(0, 3, 0), 4);
    }

    private void setOthers() {
        s.of(4, "whichever is told): what it had there; NONE: others.");
        ShaderReady x = Due.of(TEXT);
        s.due("no third INPUT", x.set(2, 0, 5), NONE);
        s.due("no LANE 4", x.set(0, 4, 5), NONE);
        s.due("no LANE 4 of given", x.set(1, 4, 5), NONE);
        s.due("no LANE -1 of given", x.set(1, -1, 5), NONE);
        for (int far : FAR) {
            s.due("set(" + far + ", 0, 5)", x.set(far, 0, 5), NONE);
            s.due("set(0, " + far + ", 5)", x.set(0, far, 5), NONE);
            s.due("set(0, 0, " + far + ")", x.set(0, 0, far), NONE);
        }
        s.due("nothing was set", x.walked(0, 0), 8);
        s.due("of none", new ShaderReady().set(0, 0, 0), NONE);
    }

    private void sixteenCells() {
        s.of(5, "TABLE: 16 cells, 0 to 999 (0 at first)");
        ShaderReady x = Due.of("lane a 0 15;t is tex a;show t;");
        for (int cell = 0; cell < 16; cell++) {
            s.due("cell " + cell + " at first", x.cell(cell, 999 - cell), 0);
        }
        for (int cell = 0; cell < 16; cell++) {
            x.set(0, 0, cell);
            s.due("cell " + cell + " is read", x.walked(0, 0), 999 - cell);
        }
        s.due("no cell 16", x.cell(16, 0), NONE);
    }

    private void cellWhatItWas() {
        s.of(5, "A cell of the TABLE is 0 to 999: what it was");
        ShaderReady x = new ShaderReady();
        s.due("999", x.cell(15, 999), 0);
        s.due("0", x.cell(15, 0), 999);
        s.due("0 again", x.cell(15, 0), 0);
        s.due("1,000", x.cell(15, 1000), NONE);
        s.due("-1", x.cell(15, -1), NONE);
        s.due("nothing of that stays", x.cell(15, 5), 0);
    }

    private void cellOthers() {
        s.of(5, "0 to 999: what it was; NONE: others.");
        ShaderReady x = new ShaderReady();
        s.due("cell 16", x.cell(16, 1), NONE);
        for (int far : FAR) {
            s.due("cell(" + far + ", 1)", x.cell(far, 1), NONE);
            if (far < 0 || far > 999) {
                s.due("cell(1, " + far + ")", x.cell(1, far), NONE);
            }
        }
        s.due("nothing was set", x.cell(1, 1), 0);
    }

    private void rules() {
        s.of(6, "RULE 0 to 3 (0)");
        ShaderReady x = new ShaderReady();
        s.due("0 at first", x.rule(3), 0);
        s.due("3 then", x.rule(1), 3);
        s.due("1 then", x.rule(2), 1);
        s.due("2 then", x.rule(0), 2);
        s.due("0 again", x.rule(0), 0);
    }

    private void ruleOthers() {
        s.of(6, "RULE: which was; NONE: others.");
        ShaderReady x = new ShaderReady();
        s.due("rule(2)", x.rule(2), 0);
        s.due("rule(4)", x.rule(4), NONE);
        for (int far : FAR) {
            s.due("rule(" + far + ")", x.rule(far), NONE);
        }
        s.due("it stays", x.count(9), 2);
    }

    private void narrowInWhichItIs() {
        s.of(7, "in which it is in all LANES: true");
        ShaderReady x = Due.of(TEXT);
        x.set(0, 0, 5);
        x.set(0, 1, 8);
        x.set(0, 2, 6);
        x.set(0, 3, 7);
        s.holds("just so", x.narrow(0, 5, 8));
        s.holds("the lowest is below", !x.narrow(0, 6, 8));
        s.holds("the highest is above", !x.narrow(0, 5, 7));
        s.due("as before: low", x.input(0, 1), 5);
        s.due("as before: high", x.input(0, 2), 8);
        for (int lane = 0; lane < 4; lane++) {
            ShaderReady one = Due.of(TEXT);
            one.set(0, lane, 4);
            s.holds("LANE " + lane + " is above", !one.narrow(0, 3, 3));
            s.holds("all but LANE " + lane + " are below", !one.narrow(0, 4, 9));
            s.holds("all in it", one.narrow(0, 3, 4));
        }
    }

    private void narrowLimits() {
        s.of(7, "An INPUT has a RANGE (0 to 999, low no more than high)");
        ShaderReady x = Due.of(TEXT);
        s.holds("0 to 999", x.narrow(0, 0, 999));
        s.holds("-1 to 999", !x.narrow(0, -1, 999));
        s.holds("0 to 1,000", !x.narrow(0, 0, 1000));
        s.holds("low is high", x.narrow(0, 3, 3));
        s.due("low", x.input(0, 1), 3);
        s.due("high", x.input(0, 2), 3);
        s.holds("low above high", !x.narrow(0, 4, 3));
        s.holds("low above high, both beside it", !x.narrow(0, 4, 2));
        s.holds("of given", x.narrow(1, 5, 5));
    }

    private void narrowOthers() {
        s.of(7, "in all LANES: true; false: others.");
        ShaderReady x = Due.of(TEXT);
        s.holds("no third INPUT", !x.narrow(2, 0, 999));
        for (int far : FAR) {
            s.holds("narrow(" + far + ", 0, 999)", !x.narrow(far, 0, 999));
            s.holds("narrow(0, " + far + ", 999)", !x.narrow(0, far, 999));
            if (far < 0 || far > 999) {
                s.holds("narrow(0, 0, " + far + ")", !x.narrow(0, 0, far));
            }
        }
        s.due("nothing was set", x.input(0, 1) * 10 + x.input(0, 2), 39);
        s.holds("of none", !new ShaderReady().narrow(0, 0, 999));
    }

    private void narrowChanges() {
        s.of(7, "An INPUT has a RANGE");
        ShaderReady x = Due.of("lane a 0 999;f is less a 5;p is pick f a 800;show p;");
        s.due("open", x.count(3), 3);
        s.holds("narrow", x.narrow(0, 0, 4));
        s.due("KNOWN then", x.value(2, 6), 1);
        s.due("NEEDED then", x.all(0), 0b1);
        s.due("WIDTH then", x.value(0, 10), 1);
        s.holds("wide again", x.narrow(0, 0, 5));
        s.due("open again", x.count(3), 3);
        // all is as if the RANGE had been told
        String text = " a 2 900;lane w 0 999;b is add a 1;f is less a 50;p is pick f b w;q is tex p;r is min a 40;show q;show r;";
        int[][] ranges = {{2, 900}, {2, 49}, {2, 2}, {0, 999}};
        for (String kind : new String[] {"lane", "given"}) {
            for (int[] from : ranges) {
                for (int[] to : ranges) {
                    ShaderReady y = Due.of(kind + text);
                    s.holds("narrow", y.narrow(0, from[0], from[1]) && y.narrow(0, to[0], to[1]));
                    ShaderReady told = Due.of(kind + text.replace("2 900", to[0] + " " + to[1]));
                    for (int lane = 0; lane < 4; lane++) {
                        told.set(0, lane, 2);
                    }
                    s.due("as told, " + kind + " " + to[0] + " to " + to[1], Answers.of(y), Answers.of(told));
                }
            }
        }
    }

    private void input() {
        s.of(8, "3: 1 of given (0: lane), 4 to 7: what it is in LANE 0 to 3");
        ShaderReady x = Due.of(TEXT);
        for (int lane = 0; lane < 4; lane++) {
            x.set(0, lane, 4 + lane);
        }
        int[][] want = {{0, 3, 9, 0, 4, 5, 6, 7}, {1, 5, 7, 1, 5, 5, 5, 5}};
        for (int i = 0; i < 2; i++) {
            for (int what = 0; what < 8; what++) {
                s.due("input(" + i + ", " + what + ")", x.input(i, what), want[i][what]);
            }
        }
    }

    private void inputOthers() {
        s.of(8, "what it is in LANE 0 to 3; NONE: others.");
        ShaderReady x = Due.of(TEXT);
        s.due("what 8", x.input(0, 8), NONE);
        s.due("no third INPUT", x.input(2, 0), NONE);
        for (int far : FAR) {
            s.due("input(" + far + ", 1)", x.input(far, 1), NONE);
            s.due("input(0, " + far + ")", x.input(0, far), NONE);
        }
        s.due("of none", new ShaderReady().input(0, 0), NONE);
    }

    private void lanes() {
        s.of(11, "LANES 0 to 3");
        ShaderReady x = Due.of(TEXT);
        for (int lane = 0; lane < 4; lane++) {
            s.due("LANE " + lane, x.is(0, lane), 3);
        }
        s.due("LANE 4", x.is(0, 4), Integer.MIN_VALUE);
        s.due("LANE -1", x.is(0, -1), Integer.MIN_VALUE);
    }

    private void counts() {
        s.of(30, "What 0: VALUES, 1: INPUTS, 2: SHOWN, 3: how many are NEEDED, 4: LOW, 5: CLAUSES, 6: CYCLES, 7: fetch, 8: alu, 9: RULE, "
            + "10: whens, 11: signs on the TAPE, 12: NAMES told at the end.");
        ShaderReady x = Due.of("fetch 7;alu 15;lane a 0 9;lane w 0 999;t is tex a;f is less a 5;times 2;when f;t is copy 1;end;end;"
            + "show t;show t;show 3;");
        x.rule(2);
        Due.feed(x, "?? ??");
        // a 0, w 1, t 2, 5 3, f 4, 1 5, pick 6, pick 7, 3 8
        int[] want = {9, 2, 3, 5, 4, 3, 2 + 2 + 14 + 2 + 2 + 2, 7, 15, 2, 1, 5, 4};
        for (int what = 0; what < want.length; what++) {
            s.due("count(" + what + ")", x.count(what), want[what]);
        }
    }

    private void namesAtTheEnd() {
        s.of(30, "12: NAMES told at the end.");
        s.due("none", Due.of("show 1;").count(12), 0);
        s.due("INPUTS, too", Due.of("lane a 0 1;given b 0 1;c is copy 1;c is copy 2;").count(12), 3);
        s.due("no more those of parts", Due.of("f is less 1 2;when f;x is copy 1;y is copy 1;else;z is copy 1;end;").count(12), 1);
        s.due("those of a times", Due.of("times 2;x is copy 1;end;").count(12), 1);
    }

    private void countOthers() {
        s.of(30, "NONE for another what.");
        ShaderReady x = Due.of(TEXT);
        s.due("count(13)", x.count(13), NONE);
        for (int far : FAR) {
            s.due("count(" + far + ")", x.count(far), NONE);
        }
        s.due("of a new object", new ShaderReady().count(13), NONE);
    }

    private void inputWhats() {
        s.of(8, "Of an INPUT, what 0: its VALUE, 1: low, 2: high of its RANGE");
        ShaderReady x = Due.of("c is copy 4;lane a 3 9;d is add a c;given g 5 7;show d;");
        s.due("VALUE of a", x.input(0, 0), 0);
        s.due("VALUE of g, told behind d", x.input(1, 0), 1);
        s.due("low", x.input(0, 1), 3);
        s.due("high", x.input(0, 2), 9);
        s.holds("narrow", x.narrow(0, 1, 5));
        s.due("low of the RANGE there is", x.input(0, 1), 1);
        s.due("high of the RANGE there is", x.input(0, 2), 5);
        s.due("it has what it had", x.input(0, 4), 3);
    }
}
