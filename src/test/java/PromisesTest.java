import java.util.NoSuchElementException;

/** Each promise of the document, with answers worked out by hand. */
public final class PromisesTest {
    private static final Due DUE = new Due();
    private static final int NONE = -1;
    private static final int NO_NUMBER = Integer.MIN_VALUE;

    /** VALUES: u 0, x 1, y 2, s 3, t 4, m 5; by RULE 0 the ORDER is 0 1 3 4 2 5. */
    private static final String PLAIN = "given u 2 5;lane x 0 20;lane y 0 999;s is add x u;t is tex s;m is mul x y;"
        + "show m;show t;";
    /** VALUES: x 0, 50 1, f 2 (1), 7 3, z 4 (stands for 0), 1 5, w 6, 3 7. */
    private static final String STANDS = "lane x 0 9;f is less x 50;z is pick f x 7;w is add z 1;show w;show 3;show z;";
    /** VALUES: x 0, 1 1, b 2, a 3 (tex), c 4 (tex), d 5. */
    private static final String FETCHES = "lane x 0 9;b is add x 1;a is tex x;c is tex b;d is add a c;show d;";
    /** VALUES: x 0, y 1, 1 2, b 3, 2 4, c 5, 3 6, d 7. */
    private static final String TWO = "lane x 0 9;lane y 0 9;b is add x 1;c is add y 2;d is add c 3;show b;show d;";

    public static void main(String[] args) {
        newObject();
        feed();
        shader();
        setAndInput();
        cell();
        rule();
        narrow();
        value();
        singleForm();
        whens();
        range();
        isAndDiffers();
        shownWalkedRan();
        all();
        kin();
        orderAndPlace();
        pressureAndAt();
        used();
        clause();
        by();
        alone();
        narrowed();
        swapped();
        best();
        parts();
        count();
        DUE.end();
    }

    private static void due(String call, long got, long want) {
        DUE.due(call, got, want);
    }

    private static void newObject() {
        ShaderReady x = new ShaderReady();
        int[] counts = {0, 0, 0, 0, 0, 0, 0, 4, 8, 0, 0, 0, 0, NONE};
        for (int what = 0; what < counts.length; what++) {
            due("new count(" + what + ")", x.count(what), counts[what]);
        }
        due("new NONE", ShaderReady.NONE, -1);
        due("new best()", x.best(), 0);
        due("new value(0, 0)", x.value(0, 0), -2);
        due("new shown(0)", x.shown(0), NONE);
        due("new parts(0)", x.parts(0), NONE);
        due("new input(0, 0)", x.input(0, 0), NONE);
        due("new order(0)", x.order(0), NONE);
        due("new pressure(1)", x.pressure(1), 0);
        due("new cell(0, 0)", x.cell(0, 0), 0);
        due("new walked throws", walkedThrows(x, 0, 0), 1);
    }

    private static void feed() {
        ShaderReady x = new ShaderReady();
        due("feed of nothing", x.feed(0, 0, 0), 0);
        due("feed of others", x.feed(0x7F80FF1F090D0B00L, 0xFFFFFFFFFFFFFFFFL, 0x8081828384858687L), 0);
        due("feed of 10, 32, 126", x.feed(0x0A207E0000000000L, 0, 0), 3);
        due("feed again", x.feed(0, 0, 0x41), 4);
        due("count(11)", x.count(11), 4);
        due("what reads it", x.shader(), 1 + 16 * 2);
        due("takes it", x.count(11), 0);
        // the highest byte is the first: show 5;
        due("feed of bytes", x.feed(0x73686F7720353B00L, 0, 0), 7);
        due("shader", x.shader(), 0);
        due("bytes in order", x.value(x.shown(0), 1), 5);
        for (int i = 1; i <= 45; i++) {
            due("feed " + i, x.feed(-1L >>> 1 & 0x2020202020202020L, 0x2020202020202020L, 0x2020202020202020L),
                Math.min(1000, 24 * i));
        }
        due("1,000 blanks are a shader", x.shader(), 0);
        for (int i = 0; i < 41; i++) {
            x.feed(0x2020202020202020L, 0x2020202020202020L, 0x2020202020202020L);
        }
        // 984 signs; of the next 24 only 16 come
        due("the last ones", x.feed(0x73686F7720313B20L, 0x73686F7720323B20L, 0x73686F7720333B20L), 1000);
        due("shader of 1,000", x.shader(), 0);
        due("what was beyond is left out", x.count(2), 2);
    }

    private static void shader() {
        ShaderReady x = Due.of("fetch 2;alu 3;" + PLAIN);
        due("rule", x.rule(3), 0);
        due("cell", x.cell(2, 77), 0);
        due("set", x.set(1, 2, 9), 0);
        due("narrow", x.narrow(0, 1, 4) ? 1 : 0, 1);
        due("a fault", Due.shader(x, "lane q 0 1;show z;"), 2 + 16 * 16);
        due("all stays: values", x.count(0), 6);
        due("all stays: fetch", x.count(7), 2);
        due("all stays: lane", x.input(1, 6), 9);
        due("all stays: range", x.input(0, 2), 4);
        due("all stays: shown", x.count(2), 2);
        due("a fault as it is worked", Due.shader(x, "times 9;show 1;end;"), 5 + 16 * 8);
        due("all stays: inputs", x.count(1), 3);
        due("all stays: names", x.count(12), 6);
        due("the same again", Due.shader(x, PLAIN), 0);
        due("as told: lane", x.input(1, 6), 0);
        due("as told: range", x.input(0, 2), 5);
        due("as told: fetch", x.count(7), 4);
        due("as told: alu", x.count(8), 8);
        due("the rule stays", x.count(9), 3);
        due("the table stays", x.cell(2, 0), 77);
        due("an empty one", x.shader(), 0);
        due("nothing then", x.count(0) + x.count(1) + x.count(2) + x.count(3) + x.count(12), 0);
    }

    private static void setAndInput() {
        ShaderReady x = Due.of(PLAIN);
        due("set below", x.set(0, 0, 1), NONE);
        due("set above", x.set(0, 0, 6), NONE);
        due("set no lane", x.set(0, 4, 3), NONE);
        due("set no lane below", x.set(0, -1, 3), NONE);
        due("set no input", x.set(3, 0, 3), NONE);
        due("set no input below", x.set(-1, 0, 3), NONE);
        due("set given", x.set(0, 2, 5), 2);
        for (int lane = 0; lane < 4; lane++) {
            due("given is in all lanes", x.input(0, 4 + lane), 5);
        }
        due("set lane", x.set(1, 2, 20), 0);
        due("set lane again", x.set(1, 2, 0), 20);
        due("set lane once more", x.set(1, 3, 7), 0);
        int[] want = {1, 0, 20, 0, 0, 0, 0, 7, NONE};
        for (int what = 0; what < want.length; what++) {
            due("input(1, " + what + ")", x.input(1, what), want[what]);
        }
        due("input(0, 3)", x.input(0, 3), 1);
        due("input(2, 0)", x.input(2, 0), 2);
        due("input(0, -1)", x.input(0, -1), NONE);
        due("input(3, 0)", x.input(3, 0), NONE);
        due("narrowed", x.narrow(1, 0, 7) ? 1 : 0, 1);
        due("set beyond what is narrowed", x.set(1, 0, 8), NONE);
        // an INPUT may be told behind other lines, and is numbered first
        ShaderReady late = Due.of("a is copy 4;lane x 1 2;show x;show a;");
        due("late input", late.input(0, 0), 0);
        due("late input is shown", late.shown(0), 0);
        due("the number comes behind it", late.shown(1), 1);
    }

    private static void cell() {
        ShaderReady x = Due.of("lane a 0 20;t is tex a;show t;");
        due("cell", x.cell(15, 999), 0);
        due("cell again", x.cell(15, 0), 999);
        due("cell too high", x.cell(16, 1), NONE);
        due("cell too low", x.cell(-1, 1), NONE);
        due("number too high", x.cell(0, 1000), NONE);
        due("number too low", x.cell(0, -1), NONE);
        due("nothing was set", x.cell(0, 3), 0);
        due("cell is read", x.is(1, 0), 3);
        due("set 17", x.set(0, 1, 17), 0);
        due("cell 1", x.cell(1, 8), 0);
        due("17 is cell 1", x.is(1, 1), 8);
    }

    private static void rule() {
        ShaderReady x = Due.of(FETCHES);
        due("rule(4)", x.rule(4), NONE);
        due("rule(-1)", x.rule(-1), NONE);
        due("rule(3)", x.rule(3), 0);
        due("order by it", x.order(1), 3);
        due("rule(1)", x.rule(1), 3);
        due("order by 1", x.order(1), 2);
        due("rule(1) again", x.rule(1), 1);
    }

    private static void narrow() {
        ShaderReady x = Due.of(PLAIN);
        x.set(1, 0, 5);
        x.set(1, 1, 9);
        DUE.holds("not all lanes within", !x.narrow(1, 5, 9));
        x.set(1, 2, 6);
        x.set(1, 3, 7);
        DUE.holds("one above", !x.narrow(1, 5, 8));
        DUE.holds("all within", x.narrow(1, 5, 9));
        due("low", x.input(1, 1), 5);
        due("high", x.input(1, 2), 9);
        due("range of s", x.range(3, 0), 7);
        due("range of m", x.range(5, 1), 9 * 999);
        DUE.holds("wider than told", x.narrow(1, 0, 999));
        due("wider", x.input(1, 2), 999);
        DUE.holds("beyond 999", !x.narrow(1, 0, 1000));
        DUE.holds("below 0", !x.narrow(1, -1, 999));
        DUE.holds("turned", !x.narrow(2, 1, 0));
        DUE.holds("no input", !x.narrow(3, 0, 1));
        DUE.holds("no input below", !x.narrow(-1, 0, 1));
        DUE.holds("to one number", x.narrow(2, 0, 0));
        due("known then", x.value(2, 6), 1);
        due("a product with 0 is known, too", x.all(2), 0b100100);
    }

    private static void value() {
        ShaderReady x = Due.of(STANDS);
        int[][] want = {
            {0, 0, NONE, NONE, 0, 0, 0, 1, 0, 2, 1, -2},
            {1, 50, NONE, NONE, 0, 1, 1, 0, 1, 0, 1, -2},
            {8, 0, 1, NONE, 1, 0, 1, 0, 2, 0, 1, -2},
            {1, 7, NONE, NONE, 0, 1, 1, 0, 3, 0, 1, -2},
            {13, 2, 0, 3, 0, 0, 0, 0, 0, 0, 1, -2},
            {1, 1, NONE, NONE, 0, 1, 1, 0, 5, 0, 1, -2},
            {2, 4, 5, NONE, 0, 0, 0, 1, 6, 1, 1, -2},
            {1, 3, NONE, NONE, 0, 1, 1, 0, 7, 0, 1, -2}};
        for (int v = 0; v < want.length; v++) {
            for (int what = 0; what < want[v].length; what++) {
                due("value(" + v + ", " + what + ")", x.value(v, what), want[v][what]);
            }
        }
        due("value(8, 0)", x.value(8, 0), -2);
        due("value(-1, 0)", x.value(-1, 0), -2);
        due("value(0, -1)", x.value(0, -1), -2);
        ShaderReady wide = Due.of("lane a 0 511;lane b 0 512;c is sub 0 b;d is sub c 1;e is less a b;show 1;");
        int[] widths = {1, 2, 1, 1, 1, 2, 1};
        for (int v = 0; v < widths.length; v++) {
            due("width of " + v, wide.value(v, 10), widths[v]);
        }
        String[] ops = {"add 5 6", "sub 5 6", "mul 5 6", "min 5 6", "max 5 6", "tex 5", "less 5 6", "same 5 6", "both f f",
            "either f f", "flip f", "pick f 5 6"};
        for (int op = 0; op < ops.length; op++) {
            ShaderReady one = Due.of("lane a 0 9;f is less a 5;q is add 5 6;q is sub q 6;z is " + ops[op] + ";");
            int last = one.count(0) - 1;
            due(ops[op], op == 0 ? one.value(4, 0) : one.value(last, 0), op + 2);
        }
    }

    private static void singleForm() {
        // either way: one VALUE, the lower one first
        for (String op : new String[] {"add", "mul", "min", "max", "same"}) {
            ShaderReady x = Due.of("lane a 0 9;lane b 0 9;c is " + op + " b a;d is " + op + " a b;");
            due(op + " either way", x.count(0), 3);
            due(op + " lower first", x.value(2, 1) * 10 + x.value(2, 2), 1);
        }
        for (String op : new String[] {"sub", "less"}) {
            ShaderReady x = Due.of("lane a 0 9;lane b 0 9;c is " + op + " b a;d is " + op + " a b;e is " + op + " b a;");
            due(op + " in its order", x.count(0), 4);
            due(op + " as told", x.value(2, 1) * 10 + x.value(2, 2), 10);
        }
        for (String op : new String[] {"both", "either"}) {
            ShaderReady x = Due.of("lane a 0 9;f is less a 3;g is less a 4;h is " + op + " g f;k is " + op + " f g;");
            due(op + " either way", x.count(0), 6);
            due(op + " lower first", x.value(5, 1) * 10 + x.value(5, 2), 24);
        }
        ShaderReady x = Due.of("lane a 0 9;f is less a 007;b is pick f a a;c is copy b;show b;show c;show 7;");
        due("pick of one VALUE is that", x.shown(0), 0);
        due("copy is its arg", x.shown(1), 0);
        due("one number", x.shown(2), 1);
        due("no more values", x.count(0), 3);
        ShaderReady loop = Due.of("lane a 0 9;b is copy a;times 3;b is add b a;times 2;b is add b 1;end;show b;end;");
        // a 0; add 1, 1 2, add 3, add 4; add 5, 6, 7; add 8, 9, 10
        due("loop values", loop.count(0), 11);
        due("loop shown 0", loop.shown(0), 4);
        due("loop shown 1", loop.shown(1), 7);
        due("loop shown 2", loop.shown(2), 10);
        due("loop shown 3", loop.shown(3), NONE);
    }

    private static void whens() {
        // VALUES: x 0, 5 1, f 2, 1 3, 2 4, 3 5, 4 6, 9 7; merged in the order told: b 8, a 9
        ShaderReady x = Due.of("lane x 0 9;f is less x 5;b is copy 1;a is copy 2;"
            + "when f;a is copy 3;b is copy 4;c is copy 9;else;b is copy 5;end;show a;show b;");
        due("b is merged first", x.shown(1), 8);
        due("then a", x.shown(0), 9);
        due("b: flag", x.value(8, 1), 2);
        due("b: first part's", x.value(8, 2), 6);
        due("b: second part's", x.value(8, 3), 1);
        due("a: first part's", x.value(9, 2), 5);
        due("a: second part's", x.value(9, 3), 4);
        due("names at the end", x.count(12), 4);
        // the flag is the one of the begin, though its NAME is told again
        ShaderReady flag = Due.of("lane x 0 9;f is less x 5;a is copy 1;when f;f is less x 3;a is copy 2;end;show a;");
        due("the when's arg", flag.value(flag.shown(0), 1), 2);
        due("f itself is merged ahead of a", flag.value(flag.shown(0) - 1, 4), 1);
        // a NAME within a part is another one than one like it elsewhere, of another TYPE even
        ShaderReady parts = Due.of("lane x 0 9;f is less x 5;when f;q is copy 1;else;q is less x 1;end;"
            + "q is add x 2;show q;");
        due("another q", parts.value(parts.shown(0), 0), 2);
        due("a part's NAME leaves no pick", parts.all(0), 1 | 1L << parts.shown(0));
        // the same VALUE in both parts needs no pick
        ShaderReady same = Due.of("lane x 0 9;f is less x 5;a is copy 1;when f;a is add x 1;else;a is add 1 x;end;show a;");
        due("no pick", same.value(same.shown(0), 0), 2);
    }

    private static void range() {
        String text = "lane a 2 5;lane b 3 9;";
        String[] ops = {"add a b", "sub a b", "mul a b", "min a b", "max a b", "tex a", "less a b", "same a b"};
        int[][] ends = {{5, 14}, {-7, 2}, {6, 45}, {2, 5}, {3, 9}, {0, 999}, {0, 1}, {0, 1}};
        for (int op = 0; op < ops.length; op++) {
            ShaderReady x = Due.of(text + "c is " + ops[op] + ";");
            due(ops[op] + " least", x.range(2, 0), ends[op][0]);
            due(ops[op] + " greatest", x.range(2, 1), ends[op][1]);
        }
        ShaderReady signs = Due.of("lane a 2 5;lane b 3 9;c is sub a 4;d is mul c b;e is mul c c;");
        due("mul of signs least", signs.range(4, 0), -18);
        due("mul of signs greatest", signs.range(4, 1), 9);
        due("mul of itself: all four products", signs.range(5, 0), -2);
        ShaderReady held = Due.of("lane a 900 999;b is mul a a;c is add b b;d is sub 0 c;e is sub d c;");
        due("no more than 99999", held.range(1, 0), 99999);
        due("nor a sum", held.range(2, 1), 99999);
        due("no less than -99999", held.range(5, 0), -99999);
        rangeOfFlags();
        ShaderReady x = Due.of(PLAIN);
        due("range(0, 2)", x.range(0, 2), NO_NUMBER);
        due("range(0, -1)", x.range(0, -1), NO_NUMBER);
        due("range(6, 0)", x.range(6, 0), NO_NUMBER);
        due("range(-1, 0)", x.range(-1, 0), NO_NUMBER);
    }

    private static void rangeOfFlags() {
        // a 2..5; y: 1, n: 0, m: 0 to 1
        String text = "lane a 2 5;y is less a 6;n is less a 2;m is less a 3;";
        String[] made = {"both y m", "both n m", "both y y", "either y m", "either n m", "either n n", "flip y", "flip n",
            "flip m", "less a 5", "less 5 a", "less 1 a", "same a 5", "same a 6", "same a 1", "same 4 4", "same a a",
            "pick y n m", "pick n y m", "pick m n n", "pick m n y"};
        int[] least = {0, 0, 1, 1, 0, 0, 0, 1, 0, 0, 0, 1, 0, 0, 0, 1, 0, 0, 0, 0, 0};
        int[] greatest = {1, 0, 1, 1, 1, 0, 0, 1, 1, 1, 0, 1, 1, 0, 0, 1, 1, 0, 1, 0, 1};
        for (int i = 0; i < made.length; i++) {
            ShaderReady x = Due.of(text + "q is copy m;when q;q is flip q;end;q is " + made[i] + ";z is pick q a 700;show z;");
            int z = x.shown(0);
            int q = x.value(z, 1);
            due(made[i] + " least", x.range(q, 0), least[i]);
            due(made[i] + " greatest", x.range(q, 1), greatest[i]);
            due(made[i] + " picked least", x.range(z, 0), greatest[i] == 0 ? 700 : 2);
            due(made[i] + " picked greatest", x.range(z, 1), least[i] == 1 ? 5 : 700);
        }
    }

    private static void isAndDiffers() {
        ShaderReady x = Due.of("lane a 0 999;b is mul a a;c is sub 0 b;d is tex c;f is less a 10;g is same a 5;"
            + "h is both f g;k is either f g;m is flip f;p is pick g 3 a;q is min a 7;r is max a 7;");
        // a 0, b 1, 0 2, c 3, d 4, 10 5, f 6, 5 7, g 8, h 9, k 10, m 11, 3 12, p 13, 7 14, q 15, r 16
        x.set(0, 1, 5);
        x.set(0, 2, 9);
        x.set(0, 3, 999);
        x.cell(7, 70);
        x.cell(15, 150);
        x.cell(1, 10);
        int[][] want = {
            {0, 5, 9, 999}, {0, 25, 81, 99999}, {0, 0, 0, 0}, {0, -25, -81, -99999},
            // -25 is 7, -81 is 15, -99999 is 1 modulo 16
            {0, 70, 150, 10}, {10, 10, 10, 10}, {1, 1, 1, 0}, {5, 5, 5, 5}, {0, 1, 0, 0}, {0, 1, 0, 0}, {1, 1, 1, 0},
            {0, 0, 0, 1}, {3, 3, 3, 3}, {0, 3, 9, 999}, {7, 7, 7, 7}, {0, 5, 7, 7}, {7, 7, 9, 999}};
        for (int v = 0; v < want.length; v++) {
            int differs = 0;
            for (int lane = 0; lane < 4; lane++) {
                due("is(" + v + ", " + lane + ")", x.is(v, lane), want[v][lane]);
                differs |= want[v][lane] != want[v][0] ? 1 << lane : 0;
            }
            due("differs(" + v + ")", x.differs(v), differs);
        }
        due("is(17, 0)", x.is(17, 0), NO_NUMBER);
        due("is(-1, 0)", x.is(-1, 0), NO_NUMBER);
        due("is(0, 4)", x.is(0, 4), NO_NUMBER);
        due("is(0, -1)", x.is(0, -1), NO_NUMBER);
        due("differs(17)", x.differs(17), NONE);
        due("differs(-1)", x.differs(-1), NONE);
    }

    private static int walkedThrows(ShaderReady x, int lane, int i) {
        try {
            x.walked(lane, i);
            return 0;
        } catch (NoSuchElementException none) {
            return 1;
        }
    }

    private static int ranThrows(ShaderReady x, int lane, int i) {
        try {
            x.ran(lane, i);
            return 0;
        } catch (NoSuchElementException none) {
            return 1;
        }
    }

    private static void shownWalkedRan() {
        ShaderReady x = Due.of("lane x 0 9;f is less x 5;a is copy x;times 3;when f;a is add a 10;else;a is mul a 2;end;"
            + "f is flip f;end;b is tex a;show a;show b;show 6;");
        int[] inputs = {0, 4, 5, 9};
        // below 5: +10, *2, +10; else: *2, +10, *2
        int[] want = {30, 38, 40, 56};
        for (int lane = 0; lane < 4; lane++) {
            x.set(0, lane, inputs[lane]);
        }
        x.cell(30 % 16, 1);
        x.cell(38 % 16, 2);
        x.cell(40 % 16, 3);
        for (int rule = 0; rule < 4; rule++) {
            x.rule(rule);
            for (int lane = 0; lane < 4; lane++) {
                due("walked " + lane, x.walked(lane, 0), want[lane]);
                due("ran " + lane, x.ran(lane, 0), want[lane]);
                due("walked tex " + lane, x.walked(lane, 1), lane == 3 ? 3 : lane + 1);
                due("ran tex " + lane, x.ran(lane, 1), lane == 3 ? 3 : lane + 1);
                due("walked number " + lane, x.walked(lane, 2), 6);
                due("ran number " + lane, x.ran(lane, 2), 6);
            }
        }
        walkedLoops();
        due("shown(2)", x.value(x.shown(2), 1), 6);
        due("shown(3)", x.shown(3), NONE);
        due("shown(-1)", x.shown(-1), NONE);
        int[][] none = {{0, 3}, {0, -1}, {4, 0}, {-1, 0}, {4, 3}};
        for (int[] call : none) {
            due("walked throws", walkedThrows(x, call[0], call[1]), 1);
            due("ran throws", ranThrows(x, call[0], call[1]), 1);
        }
        due("walked does not throw", walkedThrows(x, 3, 2), 0);
        due("ran does not throw", ranThrows(x, 3, 2), 0);
    }

    private static void walkedLoops() {
        // four within one another, then five in a row: 2 * 3 * 2 * 2 and 5 * 2 sums
        ShaderReady x = Due.of("lane a 1 9;b is copy 0;times 2;times 3;times 2;times 2;b is add b a;end;end;end;end;show b;"
            + "times 2;b is add b a;end;times 2;b is add b a;end;times 2;b is add b a;end;times 2;b is add b a;end;"
            + "times 2;b is add b a;end;show b;");
        x.set(0, 1, 3);
        for (int lane = 0; lane < 2; lane++) {
            due("walked four within", x.walked(lane, 0), lane == 0 ? 24 : 72);
            due("ran four within", x.ran(lane, 0), lane == 0 ? 24 : 72);
            due("walked five in a row", x.walked(lane, 1), lane == 0 ? 34 : 102);
            due("ran five in a row", x.ran(lane, 1), lane == 0 ? 34 : 102);
        }
    }

    private static void all() {
        ShaderReady x = Due.of(PLAIN);
        long[] want = {0b111111, 0b000001, 0, 0b001011, 0, 0b110000, 0b010000, 0};
        for (int what = 0; what < want.length; what++) {
            due("all(" + what + ")", x.all(what), want[what]);
        }
        due("all(-1)", x.all(-1), 0);
        ShaderReady known = Due.of(STANDS);
        long[] also = {0b1000001, 0b10101010, 0b10101110, 0b11111011, 0b100, 0b11010000, 0};
        for (int what = 0; what < also.length; what++) {
            due("all(" + what + ") of known ones", known.all(what), also[what]);
        }
        ShaderReady full = Due.of("lane a 0 9;b is copy a;times 9;times 7;b is add b a;end;end;show b;");
        due("the 64th", full.shown(0), 63);
        due("as the highest bit", full.all(5), Long.MIN_VALUE);
        due("all needed", full.all(0), -1L);
    }

    private static void kin() {
        ShaderReady x = Due.of(PLAIN);
        long[][] want = {{0, 0b1000, 0, 0b11000}, {0, 0b101000, 0, 0b111000}, {0, 0b100000, 0, 0b100000},
            {0b11, 0b10000, 0b11, 0b10000}, {0b1000, 0, 0b1011, 0}, {0b110, 0, 0b110, 0}};
        for (int v = 0; v < want.length; v++) {
            for (int what = 0; what < 4; what++) {
                due("kin(" + v + ", " + what + ")", x.kin(v, what), want[v][what]);
            }
        }
        due("kin(0, 4)", x.kin(0, 4), 0);
        due("kin(3, -1)", x.kin(3, -1), 0);
        due("kin(6, 0)", x.kin(6, 0), 0);
        due("kin(-1, 0)", x.kin(-1, 0), 0);
        ShaderReady stands = Due.of(STANDS);
        due("sources by what they stand for", stands.kin(6, 0), 1);
        due("not needed", stands.kin(4, 0), 0);
    }

    private static void orderAndPlace() {
        ShaderReady x = Due.of(PLAIN);
        int[] order = {0, 1, 3, 4, 2, 5, NONE};
        for (int p = 0; p < order.length; p++) {
            due("order(" + p + ")", x.order(p), order[p]);
        }
        due("order(-1)", x.order(-1), NONE);
        // by VALUE: PLACE, where it ends, REGISTER, CLAUSE, lowest, highest PLACE
        int[][] want = {{0, 2, 0, 0, 0, 3}, {1, 5, 0, 0, 0, 2}, {4, 5, 4, 2, 0, 4}, {2, 3, 1, 0, 2, 4}, {3, 6, 2, 1, 3, 5},
            {5, 6, 0, 2, 2, 5}};
        for (int v = 0; v < want.length; v++) {
            for (int what = 0; what < 6; what++) {
                due("place(" + v + ", " + what + ")", x.place(v, what), want[v][what]);
            }
            due("place(" + v + ", 6)", x.place(v, 6), NONE);
            due("place(" + v + ", -1)", x.place(v, -1), NONE);
        }
        due("place(6, 0)", x.place(6, 0), NONE);
        due("place(-1, 0)", x.place(-1, 0), NONE);
        due("place of one not needed", Due.of(STANDS).place(4, 0), NONE);
        int[][] rules = {{1, 5, 7, 0, 3}, {0, 1, 3, 5, 7}, {1, 0, 5, 3, 7}, {0, 1, 3, 5, 7}};
        for (int rule = 0; rule < 4; rule++) {
            ShaderReady two = Due.of(TWO);
            two.rule(rule);
            for (int p = 0; p < 5; p++) {
                due("rule " + rule + " order(" + p + ")", two.order(p), rules[rule][p]);
            }
        }
        int[][] fetches = {{0, 2, 3, 4, 5}, {0, 2, 3, 4, 5}, {0, 2, 3, 4, 5}, {0, 3, 2, 4, 5}};
        for (int rule = 0; rule < 4; rule++) {
            ShaderReady tex = Due.of(FETCHES);
            tex.rule(rule);
            for (int p = 0; p < 5; p++) {
                due("tex by rule " + rule + " order(" + p + ")", tex.order(p), fetches[rule][p]);
            }
        }
    }

    private static void pressureAndAt() {
        ShaderReady x = Due.of(PLAIN);
        int[][] at = {{1, 1, 0, 0, 0, 0, NONE}, {0, 1, 2, 3, 5, 4, NONE}, {1, 2, 2, 3, 5, 4, NONE}};
        for (int file = 0; file < 3; file++) {
            for (int p = 0; p < 7; p++) {
                due("at(" + p + ", " + file + ")", x.at(p, file), at[file][p]);
            }
            due("at(-1, " + file + ")", x.at(-1, file), NONE);
        }
        due("at(0, 3)", x.at(0, 3), NONE);
        due("at(0, -1)", x.at(0, -1), NONE);
        int[] most = {1, 5, 5, NONE};
        for (int file = 0; file < 4; file++) {
            due("pressure(" + file + ")", x.pressure(file), most[file]);
        }
        due("pressure(-1)", x.pressure(-1), NONE);
        // what a SHOWN one stands for lives to the end
        due("kept", Due.of(STANDS).at(1, 2), 2);
    }

    private static void used() {
        ShaderReady x = Due.of(PLAIN);
        due("used(0)", x.used(0), 1);
        due("used(1)", x.used(1), 6);
        due("used(2)", x.used(2), NONE);
        due("used(-1)", x.used(-1), NONE);
        // an odd half is no begin of a wide one: a 0, b 2 and 3, c 1
        ShaderReady odd = Due.of("lane a 0 9;lane b 0 999;lane c 0 9;show a;show b;show c;");
        odd.rule(1);
        due("narrow", odd.place(0, 2), 0);
        due("wide", odd.place(1, 2), 2);
        due("narrow behind", odd.place(2, 2), 1);
        due("used by them", odd.used(1), 4);
    }

    private static void clause() {
        ShaderReady x = Due.of(PLAIN);
        int[][] want = {{0, 0, 3, 5}, {1, 3, 1, 14}, {0, 4, 2, 7}};
        for (int k = 0; k < 3; k++) {
            for (int what = 0; what < 4; what++) {
                due("clause(" + k + ", " + what + ")", x.clause(k, what), want[k][what]);
            }
            due("clause(" + k + ", 4)", x.clause(k, 4), NONE);
            due("clause(" + k + ", -1)", x.clause(k, -1), NONE);
        }
        due("clause(3, 0)", x.clause(3, 0), NONE);
        due("clause(-1, 0)", x.clause(-1, 0), NONE);
        // tex of tex: not in one row
        ShaderReady chain = Due.of("lane x 0 9;a is tex x;b is tex a;c is tex 3;show b;show c;");
        chain.rule(1);
        due("chain clauses", chain.count(5), 3);
        due("chain row", chain.clause(1, 2), 1);
        due("chain next row", chain.clause(2, 2), 2);
        due("chain cycles", chain.count(6), 3 + 14 + 16);
        // limits
        ShaderReady limits = Due.of("fetch 1;alu 2;" + FETCHES);
        due("limits", limits.count(5), 4);
        ShaderReady one = Due.of("alu 1;" + FETCHES);
        due("alu 1", one.count(5), 4);
        due("alu 1 cycles", one.count(6), 3 + 3 + 16 + 4);
        // UNIFORM ones and INPUTS 1 each, a mul twice its WIDTH
        ShaderReady cycles = Due.of("given u 0 999;lane x 0 999;lane y 0 9;a is mul u u;b is mul x x;c is mul y y;"
            + "d is add x y;show a;show b;show c;show d;");
        due("cycles", cycles.count(6), 2 + 3 + 1 + 4 + 2 + 2);
    }

    private static void by() {
        ShaderReady x = Due.of(FETCHES);
        int[][] want = {{0, 3, 24}, {0, 3, 24}, {0, 3, 24}, {0, 5, 38}};
        for (int rule = 0; rule < 4; rule++) {
            due("by(" + rule + ", 1)", x.by(rule, 1), want[rule][1]);
            due("by(" + rule + ", 2)", x.by(rule, 2), want[rule][2]);
        }
        due("the rule stays", x.count(9), 0);
        due("the clauses stay", x.count(5), 3);
        ShaderReady plain = Due.of(PLAIN);
        int[] costs = {5, 3, 26, 1, 6, NONE};
        for (int what = 0; what < costs.length; what++) {
            due("by(0, " + what + ")", plain.by(0, what), costs[what]);
            due("by(1, " + what + ")", plain.by(1, what), costs[what]);
        }
        due("by(4, 0)", plain.by(4, 0), NONE);
        due("by(-1, 0)", plain.by(-1, 0), NONE);
        due("by(0, -1)", plain.by(0, -1), NONE);
    }

    private static void alone() {
        ShaderReady x = Due.of(PLAIN);
        // m: x, y, m; x 1, x y 3, m 2; 2 + 1 + 1 + 4; t: u, x, s, t; 2 + 1 + 1 + 1, 14
        int[][] want = {{3, 1, 8, 0, 4, 3, NONE}, {2, 2, 19, 1, 2, 4, NONE}};
        for (int i = 0; i < 2; i++) {
            for (int what = 0; what < 7; what++) {
                due("alone(" + i + ", " + what + ")", x.alone(i, what), want[i][what]);
            }
        }
        due("alone(2, 0)", x.alone(2, 0), NONE);
        due("alone(-1, 0)", x.alone(-1, 0), NONE);
        due("alone(0, -1)", x.alone(0, -1), NONE);
        due("all stays", x.count(3), 6);
        due("a known one alone", Due.of(STANDS).alone(1, 5), 0);
        due("what it stands for alone", Due.of(STANDS).alone(2, 5), 1);
        ShaderReady rule = Due.of(FETCHES);
        rule.rule(3);
        due("by the rule there is", rule.alone(0, 1), 5);
    }

    private static void narrowed() {
        ShaderReady x = Due.of(PLAIN);
        x.set(2, 0, 500);
        // y 3 to 4: y is LOW, m 0 to 80 is LOW; u x s y m t: pressure 1 2 2 3 2 3; 2 + 4 + 2, 14
        int[] want = {3, 2, 22, 1, 4, 6, 5, 0, NONE};
        for (int what = 0; what < want.length; what++) {
            due("narrowed(2, 3, 4, " + what + ")", x.narrowed(2, 3, 4, what), want[what]);
        }
        due("known", x.narrowed(2, 0, 0, 7), 2);
        due("needed then", x.narrowed(2, 0, 0, 5), 4);
        due("all stays", x.input(2, 2), 999);
        due("all stays, too", x.count(4), 3);
        due("wider", x.narrowed(0, 0, 999, 6), 1);
        due("above", x.narrowed(2, 0, 1000, 0), NONE);
        due("below", x.narrowed(2, -1, 5, 0), NONE);
        due("turned", x.narrowed(2, 5, 4, 0), NONE);
        due("no input", x.narrowed(3, 0, 1, 0), NONE);
        due("no input below", x.narrowed(-1, 0, 1, 0), NONE);
        due("no such what", x.narrowed(0, 0, 1, -1), NONE);
    }

    private static void swapped() {
        ShaderReady x = Due.of(PLAIN);
        due("u, x", x.swapped(0, 0), 5);
        due("x is a source of s", x.swapped(1, 0), NONE);
        due("s is a source of t", x.swapped(2, 0), NONE);
        // u x s y t m: y with s: 1 2 2 4 5 4; clauses u x s y, t, m: 6, 14, 6
        due("t, y pressure", x.swapped(3, 0), 5);
        due("t, y clauses", x.swapped(3, 1), 3);
        due("t, y cycles", x.swapped(3, 2), 26);
        due("y is a source of m", x.swapped(4, 1), NONE);
        due("no next place", x.swapped(5, 0), NONE);
        due("no place", x.swapped(6, 0), NONE);
        due("no place below", x.swapped(-1, 0), NONE);
        due("no such what", x.swapped(0, 3), NONE);
        due("no such what below", x.swapped(0, -1), NONE);
        due("all stays", x.order(3), 4);
        ShaderReady tex = Due.of(FETCHES);
        // x b a c d: b, a changed: x | a | b | c | d
        due("clauses change", tex.swapped(1, 1), 5);
        due("cycles change", tex.swapped(1, 2), 38);
        due("by the rule", tex.rule(3), 0);
        due("changed back", tex.swapped(1, 1), 3);
    }

    private static void best() {
        due("best of plain", Due.of(PLAIN).best(), 4);
        due("best of two", Due.of(TWO).best(), 2);
        due("best of known", Due.of("show 3;").best(), 0);
        ShaderReady twelve = Due.of("lane a 0 9;b is copy a;times 9;b is add b a;end;b is sub b a;b is sub b a;show b;");
        due("12 needed", twelve.count(3), 12);
        due("best of 12", twelve.best(), 2);
        ShaderReady more = Due.of("lane a 0 9;b is copy a;times 6;b is add b a;b is sub b 1;end;show b;");
        due("13 needed", more.count(3), 13);
        due("best of 13", more.best(), NONE);
        more.narrow(0, 0, 0);
        due("none needed", more.best(), 0);
    }

    private static void parts() {
        ShaderReady x = Due.of("lane x 0 9;given g 0 9;f is less g 3;h is copy f;r is copy 0;"
            + "times 2;when f;when h;r is add r 1;end;else;when f;end;end;f is less x 5;end;when f;end;when h;end;");
        int[] want = {1, 0, 1, 1, 0, NONE};
        for (int k = 0; k < want.length; k++) {
            due("parts(" + k + ")", x.parts(k), want[k]);
        }
        due("parts(-1)", x.parts(-1), NONE);
        due("whens", x.count(10), 5);
        due("another shader", Due.shader(x, "f is less 1 2;when f;end;"), 0);
        due("parts are its own", x.parts(0), 0);
        due("no more parts", x.parts(1), NONE);
    }

    private static void count() {
        ShaderReady x = Due.of("fetch 8;alu 16;" + PLAIN + "f is less x 3;when f;end;");
        Due.feed(x, "show");
        x.rule(2);
        int[] want = {8, 3, 2, 6, 4, 3, 26, 8, 16, 2, 1, 4, 7, NONE};
        for (int what = 0; what < want.length; what++) {
            due("count(" + what + ")", x.count(what), want[what]);
        }
        due("count(-1)", x.count(-1), NONE);
    }
}
