/** What the other files of edges leave of sentences: promises 3, 9, 11, 14, 20, 21. */
final class RestEdges {
    private static final int NONE = -1;

    private final Sentences s;

    RestEdges(Sentences s) {
        this.s = s;
    }

    void ask() {
        s.each(this::partsAndEnds, this::aValueFromThenOn, this::numbered, this::ofOneNumber, this::mergedInOrder,
            this::sumDifferenceProduct, this::throughTheLines, this::argsAsValues, this::ofAFileOrBoth);
    }

    private void partsAndEnds() {
        s.of(3, "when ARG ; LINES else ; LINES end ; (else ; LINES may be left out), times N (2 to 9) ; LINES end ;: 4 within one another at most");
        String flag = "f is less 1 2;";
        s.noFault(flag + "when f;else;end;when f;end;times 2;end;");
        s.noFault(flag + "when f;times 2;when f;else;times 3;end;end;end;else;times 2;end;end;");
        s.fault(1, flag + "when f;else;^else;end;");
        s.fault(1, flag + "when f;else;end;^else;end;");
        s.fault(1, flag + "when f;else;end;^end;");
        s.fault(1, flag + "when f;times 2;^else;");
        s.fault(1, flag + "when f;else;times 2;end;^");
        s.fault(1, flag + "when ^;");
        s.fault(1, flag + "when f ^f;");
        s.fault(1, flag + "when f;end ^f;");
        s.fault(1, flag + "when f;else ^f;");
    }

    private void aValueFromThenOn() {
        s.of(9, "; a NAME is a VALUE from then on.");
        // a 0, 1 1, b 2, b again 3, 0 4, d 5; c is what b was
        ShaderReady x = Due.of("lane a 0 9;b is add a 1;c is copy b;b is add b 1;d is add c 0;show b;show c;show d;");
        s.due("b", x.shown(0), 3);
        s.due("b is made of 1", x.value(3, 1), 1);
        s.due("b is made of what it was", x.value(3, 2), 2);
        s.due("c stays", x.shown(1), 2);
        s.due("d is made of c", x.value(x.shown(2), 1), 2);
        s.due("no more", x.count(0), 6);
    }

    private void numbered() {
        s.of(9, "VALUES are numbered: the INPUTS first");
        ShaderReady x = Due.of("x is add 3 4;lane a 0 9;y is add a x;show y;");
        int[] made = {0, 1, 1, 2, 2};
        for (int v = 0; v < made.length; v++) {
            s.due("how VALUE " + v + " is made", x.value(v, 0), made[v]);
        }
        s.due("none behind", x.value(5, 0), -2);
        s.due("y", x.shown(0), 4);
        s.due("y is of a", x.value(4, 1), 0);
        s.due("and of x", x.value(4, 2), 3);
    }

    private void ofOneNumber() {
        s.of(9, "They are in SINGLE FORM: of one NUMBER");
        ShaderReady x = Due.of("x is add 5 5;y is copy 5;show y;show 05;show 005;show x;");
        for (int i = 0; i < 3; i++) {
            s.due("5, SHOWN " + i, x.shown(i), 0);
        }
        s.due("5 and 5", x.value(1, 1) * 10 + x.value(1, 2), 0);
        s.due("two VALUES", x.count(0), 2);
    }

    private void mergedInOrder() {
        s.of(9, "At the end of a when: each NAME that was told ahead of it in the text, in the order in which they were told");
        // a 0, 5 1, f 2, 1 3, 2 4, 3 5, 4 6, 6 7, p 8, q 9; r is 4 in both parts
        ShaderReady x = Due.of("lane a 0 9;f is less a 5;p is copy 1;q is copy 2;r is copy 3;"
            + "when f;r is copy 4;p is copy 5;else;q is copy 6;r is copy 4;end;show q;show p;show r;");
        s.due("p", x.shown(1), 8);
        s.due("p's FLAG", x.value(8, 1), 2);
        s.due("p's first part", x.value(8, 2), 1);
        s.due("p's second part", x.value(8, 3), 3);
        s.due("q", x.shown(0), 9);
        s.due("q's FLAG", x.value(9, 1), 2);
        s.due("q's first part", x.value(9, 2), 4);
        s.due("q's second part", x.value(9, 3), 7);
        s.due("r is no pick", x.shown(2), 6);
        s.due("no more", x.count(0), 10);
    }

    private void sumDifferenceProduct() {
        s.of(11, "What a VALUE IS in a LANE: add, sub, mul: the sum, difference, product");
        ShaderReady x = Due.of("lane a 0 9;given b 3 9;c is add a b;d is sub a b;e is mul a b;show c;show d;show e;");
        int[] a = {0, 2, 9, 3};
        int[] sums = {3, 5, 12, 6};
        int[] differences = {-3, -1, 6, 0};
        int[] products = {0, 6, 27, 9};
        for (int lane = 0; lane < 4; lane++) {
            x.set(0, lane, a[lane]);
        }
        for (int lane = 0; lane < 4; lane++) {
            s.due("a in LANE " + lane, x.is(0, lane), a[lane]);
            s.due("b in LANE " + lane, x.is(1, lane), 3);
            s.due("sum in LANE " + lane, x.is(2, lane), sums[lane]);
            s.due("difference in LANE " + lane, x.is(3, lane), differences[lane]);
            s.due("product in LANE " + lane, x.is(4, lane), products[lane]);
        }
    }

    private void throughTheLines() {
        s.of(14, "WALKED: what a SHOWN one is by going through the LINES");
        ShaderReady x = Due.of("lane a 0 9;b is copy a;times 3;b is add b b;show b;end;b is copy 7;show b;");
        x.set(0, 1, 2);
        int[] walked = {4, 8, 16, 7};
        for (int i = 0; i < walked.length; i++) {
            s.due("LANE 1, SHOWN " + i, x.walked(1, i), walked[i]);
            s.due("LANE 0, SHOWN " + i, x.walked(0, i), i == 3 ? 7 : 0);
        }
    }

    private void argsAsValues() {
        s.of(9, "1 to 3: its ARGS as VALUES");
        // a 0, 4 1, f 2, 6 3, p 4, t 5, g 6
        ShaderReady x = Due.of("lane a 0 9;f is less a 4;p is pick f a 6;t is tex p;g is flip f;show t;");
        int[][] args = {{0, NONE, NONE}, {4, NONE, NONE}, {0, 1, NONE}, {6, NONE, NONE}, {2, 0, 3}, {4, NONE, NONE}, {2, NONE, NONE}};
        for (int v = 0; v < args.length; v++) {
            for (int k = 0; k < 3; k++) {
                s.due("value(" + v + ", " + (k + 1) + ")", x.value(v, k + 1), args[v][k]);
            }
        }
    }

    private void ofAFileOrBoth() {
        // ORDER x 1, u 0, p 4, q 5, y 2, r 6: the FILES' most are at unlike PLACES, so both together have less than their sum
        String text = "given u 0 999;lane x 0 9;lane y 0 999;p is min u 5;q is add x p;r is mul y q;show r;";
        ShaderReady x = Due.of(text);
        s.of(20, "; of a FILE, or of both together; the PRESSURE: the most of all PLACES (0: none)");
        s.due("FILE 0", x.pressure(0), 2);
        s.due("FILE 1", x.pressure(1), 3);
        s.due("both", x.pressure(2), 3);
        s.of(21, "PRESSURE at a PLACE: the WIDTHS of those with a PLACE no higher that END higher; of a FILE, or of both together");
        int[] order = {1, 0, 4, 5, 2, 6};
        int[][] at = {{0, 2, 1, 0, 0, 0}, {1, 1, 1, 1, 3, 2}, {1, 3, 2, 1, 3, 2}};
        for (int place = 0; place < order.length; place++) {
            s.due("order(" + place + ")", x.order(place), order[place]);
            for (int file = 0; file < 3; file++) {
                s.due("at(" + place + ", " + file + ")", x.at(place, file), at[file][place]);
            }
        }
    }
}
