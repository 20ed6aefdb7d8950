import java.util.NoSuchElementException;

/** What VALUES are, their RANGES and what follows from them: promises 9 to 16. */
final class NumberEdges {
    private static final int NONE = -1;
    private static final int NO_NUMBER = Integer.MIN_VALUE;
    private static final int[] FAR = {-1, -2, 64, 65, 128, 1 << 20, Integer.MIN_VALUE, Integer.MAX_VALUE};

    private final Sentences s;

    NumberEdges(Sentences s) {
        this.s = s;
    }

    void ask() {
        s.each(this::noMoreThan, this::minAndMax, this::moduloSixteen, this::oneOrZero, this::secondOrThird,
            this::onePartAsItsArgIs, this::uniform, this::rangeOfInputsAndNumbers, this::rangeOfAddAndSub, this::rangeOfMul,
            this::rangeOfMinAndMax, this::rangeOfTex, this::rangeOfLess, this::rangeOfSame, this::rangeOfBothEitherFlip,
            this::rangeOfPick, this::known, this::standsFor, this::width, this::valueOthers, this::noneSuchArgs,
            this::rangeOthers, this::isOthers, this::differs, this::differsOthers, this::shownNoneSuch, this::walkedThrows,
            this::ranThrows, this::ranKnown, this::all, this::whatItIs, this::workedByRegisters, this::howItIsMade,
            this::whatItStandsFor, this::allWhats);
    }

    private void bothWays(String text, int want) {
        ShaderReady x = Due.of(text);
        s.due("ran of " + text, x.ran(0, 0), want);
        s.due("walked of " + text, x.walked(0, 0), want);
        s.due("is of " + text, x.is(x.shown(0), 0), want);
    }

    private void noMoreThan() {
        s.of(11, "the sum, difference, product, no less than -99999, no more than 99999");
        // b is 99900; lane keeps it from being KNOWN
        String text = "lane a 100 999;b is mul a 999;";
        bothWays(text + "c is add b 98;show c;", 99998);
        bothWays(text + "c is add b 99;show c;", 99999);
        bothWays(text + "c is add b 100;show c;", 99999);
        bothWays(text + "c is add b 999;d is sub c 1;show d;", 99998);
        bothWays(text + "c is sub 0 b;d is sub c 98;show d;", -99998);
        bothWays(text + "c is sub 0 b;d is sub c 99;show d;", -99999);
        bothWays(text + "c is sub 0 b;d is sub c 100;show d;", -99999);
        bothWays(text + "c is sub 0 b;d is sub c 999;e is add d 1;show e;", -99998);
        // 50000 * 50000 is more than an int holds: it would be less than 0 there
        String wraps = "lane a 500 999;b is mul a 100;c is sub 0 b;";
        bothWays(wraps + "d is mul b b;show d;", 99999);
        bothWays(wraps + "d is mul b c;show d;", -99999);
        bothWays(wraps + "d is mul c c;show d;", 99999);
        bothWays(text + "c is mul b b;show c;", 99999);
        bothWays(text + "c is sub 0 b;d is mul b c;show d;", -99999);
        bothWays(text + "c is sub 0 b;d is mul c c;show d;", 99999);
        bothWays("lane a 100 999;b is mul a 999;c is add b 99;d is mul c 1;show d;", 99999);
        bothWays("lane a 1 2;b is sub 0 a;c is mul a b;show c;", -1);
    }

    private void minAndMax() {
        s.of(11, "no more than 99999; min, max;");
        bothWays("lane a 3 9;b is min a 4;show b;", 3);
        bothWays("lane a 3 9;b is min a 2;show b;", 2);
        bothWays("lane a 3 9;b is max a 4;show b;", 4);
        bothWays("lane a 3 9;b is max a 2;show b;", 3);
        bothWays("lane a 3 9;b is sub 0 a;c is max a b;show c;", 3);
        bothWays("lane a 3 9;b is sub 0 a;c is min a b;show c;", -3);
    }

    private void moduloSixteen() {
        s.of(11, "tex: the cell of the NUM modulo 16 (0 to 15)");
        ShaderReady x = Due.of("lane a 0 999;lane b 0 999;c is sub a b;t is tex c;show t;");
        for (int cell = 0; cell < 16; cell++) {
            x.cell(cell, 100 + cell);
        }
        int[][] calls = {{0, 0, 0}, {15, 0, 15}, {16, 0, 0}, {17, 0, 1}, {31, 0, 15}, {32, 0, 0}, {999, 0, 7}, {0, 1, 15}, {0, 15, 1},
            {0, 16, 0}, {0, 17, 15}, {0, 999, 9}};
        for (int[] call : calls) {
            x.set(0, 1, call[0]);
            x.set(1, 1, call[1]);
            String at = call[0] + " less " + call[1];
            s.due("is at " + at, x.is(x.shown(0), 1), 100 + call[2]);
            s.due("walked at " + at, x.walked(1, 0), 100 + call[2]);
            s.due("ran at " + at, x.ran(1, 0), 100 + call[2]);
        }
    }

    private void oneOrZero() {
        s.of(11, "less, same, both, either, flip: 1 or 0");
        String text = "lane a 5 9;n is less a 5;y is less a 6;";
        String[] ops = {"less a 4", "less a 5", "less a 6", "same a 4", "same a 5", "same a 6", "both n n", "both n y", "both y y",
            "either n n", "either n y", "either y y", "flip n", "flip y"};
        int[] want = {0, 0, 1, 0, 1, 0, 0, 0, 1, 0, 1, 1, 1, 0};
        for (int i = 0; i < ops.length; i++) {
            ShaderReady x = Due.of(text + "q is " + ops[i] + ";p is pick q 1 0;show p;");
            s.due("is " + ops[i], x.is(x.value(x.shown(0), 1), 0), want[i]);
            s.due("walked " + ops[i], x.walked(0, 0), want[i]);
            s.due("ran " + ops[i], x.ran(0, 0), want[i]);
        }
    }

    private void secondOrThird() {
        s.of(11, "pick: the second, if the first is 1, else the third");
        bothWays("lane a 5 9;f is less a 6;p is pick f 20 30;show p;", 20);
        bothWays("lane a 5 9;f is less 6 a;p is pick f 20 30;show p;", 30);
        bothWays("lane a 5 9;f is less a 6;g is flip f;h is pick f g f;p is pick h 20 30;show p;", 30);
    }

    private void onePartAsItsArgIs() {
        s.of(14, "what a SHOWN one is by going through the LINES (of a when one part, as its ARG is)");
        ShaderReady x = Due.of("lane a 0 9;f is less a 5;b is copy a;when f;b is add b 10;else;b is add b 20;end;show b;"
            + "when f;b is copy 1;end;show b;when f;else;b is copy 2;end;show b;");
        x.set(0, 1, 4);
        x.set(0, 2, 5);
        x.set(0, 3, 9);
        int[][] want = {{10, 14, 25, 29}, {1, 1, 25, 29}, {1, 1, 2, 2}};
        for (int i = 0; i < 3; i++) {
            for (int lane = 0; lane < 4; lane++) {
                s.due("walked(" + lane + ", " + i + ")", x.walked(lane, i), want[i][lane]);
                s.due("is", x.is(x.shown(i), lane), want[i][lane]);
            }
        }
        // within a part f is told again: it is the when's ARG at its begin that tells
        ShaderReady again = Due.of("lane a 0 9;f is less a 5;b is copy 0;when f;f is flip f;b is add b 1;when f;b is add b 2;end;else;"
            + "b is add b 4;end;show b;");
        s.due("walked below 5", again.walked(0, 0), 1);
        again.set(0, 0, 7);
        s.due("walked from 5 on", again.walked(0, 0), 4);
        // a walk that ends within loops leaves nothing for the next one
        ShaderReady deep = Due.of("lane a 1 9;b is copy 0;times 2;times 2;times 2;b is add b a;show b;end;end;end;");
        for (int i = 0; i < 8; i++) {
            s.due("walked(0, " + i + ") within loops", deep.walked(0, i), i + 1);
        }
        ShaderReady deepest = Due.of("lane a 1 9;b is copy 0;times 2;times 2;times 2;times 2;b is add b a;end;end;end;show b;end;");
        for (int i = 0; i < 4; i++) {
            s.due("walked(0, " + i % 2 + ") behind loops", deepest.walked(0, i % 2), 8 + 8 * (i % 2));
        }
        // a times within a part that is not walked is not walked either
        ShaderReady loop = Due.of("lane a 0 9;f is less a 5;b is copy 0;times 2;when f;times 3;b is add b 1;end;else;b is add b 9;end;"
            + "end;show b;");
        s.due("3 and 3", loop.walked(0, 0), 6);
        loop.set(0, 0, 7);
        s.due("9 and 9", loop.walked(0, 0), 18);
    }

    private void uniform() {
        s.of(9, "UNIFORM: an INPUT of given, a NUMBER, what is made of UNIFORM ones alone.");
        ShaderReady x = Due.of("given g 0 9;lane a 0 9;b is add g 1;c is add a 1;d is add g a;f is less g 5;h is less a 5;"
            + "p is pick f g 1;q is pick h g 1;r is pick f a 1;k is pick f 1 a;t is tex g;u is tex a;");
        // g, a, 1, b, c, d, 5, f, h, p, q, r, k, t, u
        int[] want = {1, 0, 1, 1, 0, 0, 1, 1, 0, 1, 0, 0, 0, 1, 0};
        s.due("VALUES", x.count(0), want.length);
        for (int v = 0; v < want.length; v++) {
            s.due("value(" + v + ", 5)", x.value(v, 5), want[v]);
        }
    }

    /** RANGE of what an OP makes of ARGS told ahead: x is made last. */
    private void range(String text, int least, int greatest) {
        ShaderReady x = Due.of(text);
        int last = x.count(0) - 1;
        s.due("least of " + text, x.range(last, 0), least);
        s.due("greatest of " + text, x.range(last, 1), greatest);
    }

    private void rangeOfInputsAndNumbers() {
        s.of(10, "RANGE, least and greatest: an INPUT's; a NUMBER's;");
        range("lane a 0 999;", 0, 999);
        range("given a 7 7;", 7, 7);
        range("show 0;", 0, 0);
        range("show 999;", 999, 999);
        ShaderReady x = Due.of("lane a 2 9;show a;");
        x.narrow(0, 1, 3);
        s.due("narrowed least", x.range(0, 0), 1);
        s.due("narrowed greatest", x.range(0, 1), 3);
    }

    private void rangeOfAddAndSub() {
        s.of(10, "add, sub: of the ends");
        range("lane a 2 5;lane b 3 9;x is add a b;", 5, 14);
        range("lane a 2 5;lane b 3 9;x is sub a b;", -7, 2);
        range("lane a 2 5;x is sub a a;", -3, 3);
        String big = "lane a 100 101;b is mul a 999;";
        range(big + "x is add b 99;", 99999, 99999);
        range(big + "x is sub b 99;", 99801, 99900);
        String low = "lane a 100 101;b is sub 0 a;c is mul b 999;";
        range(low + "x is sub c 98;", -99999, -99998);
        range(low + "x is sub c 100;", -99999, -99999);
        range(low + "x is add c 100;", -99899, -99800);
    }

    private void rangeOfMul() {
        s.of(10, "mul: of the four products of ends, each no less than -99999, no more than 99999");
        range("lane a 2 5;lane b 3 9;x is mul a b;", 6, 45);
        range("lane a 0 5;b is sub a 3;lane c 2 7;x is mul b c;", -21, 14);
        range("lane a 0 5;b is sub a 3;x is mul b b;", -6, 9);
        range("lane a 0 5;b is sub a 7;x is mul b b;", 4, 49);
        range("lane a 0 5;b is sub a 7;lane c 2 9;x is mul b c;", -63, -4);
        range("lane a 0 999;b is mul a a;x is mul b b;", 0, 99999);
        range("lane a 1 999;b is mul a a;c is sub 0 b;x is mul b c;", -99999, -1);
        range("lane a 1 999;b is mul a a;c is sub 0 b;x is mul c c;", 1, 99999);
        // the ends' products are more than an int holds
        range("lane a 0 500;b is mul a 100;x is mul b b;", 0, 99999);
        range("lane a 500 501;b is mul a 100;x is mul b b;", 99999, 99999);
        range("lane a 500 501;b is mul a 100;c is sub 0 b;x is mul b c;", -99999, -99999);
        range("lane a 500 501;b is mul a 100;c is sub 0 b;x is mul c c;", 99999, 99999);
        range("lane a 0 999;b is sub a 500;c is mul b 100;x is mul c c;", -99999, 99999);
    }

    private void rangeOfMinAndMax() {
        s.of(10, "min, max: of the ends (least of leasts, least of greatests; likewise)");
        range("lane a 2 9;lane b 3 5;x is min a b;", 2, 5);
        range("lane a 2 9;lane b 3 5;x is max a b;", 3, 9);
        range("lane a 2 3;lane b 5 9;x is min a b;", 2, 3);
        range("lane a 2 3;lane b 5 9;x is max a b;", 5, 9);
    }

    private void rangeOfTex() {
        s.of(10, "tex: 0 to 999");
        range("lane a 2 9;x is tex a;", 0, 999);
        range("x is tex 3;", 0, 999);
        ShaderReady x = Due.of("t is tex 3;show t;");
        x.cell(3, 7);
        s.due("whatever the TABLE is", x.range(1, 1), 999);
    }

    private void rangeOfLess() {
        s.of(10, "less: 1, if the first one's greatest is less than the second one's least, 0, if its least is no less than the "
            + "second one's greatest, else 0 to 1");
        range("lane a 2 5;lane b 6 9;x is less a b;", 1, 1);
        range("lane a 2 5;lane b 5 9;x is less a b;", 0, 1);
        range("lane a 2 5;lane b 4 9;x is less a b;", 0, 1);
        range("lane a 5 9;lane b 2 5;x is less a b;", 0, 0);
        range("lane a 4 9;lane b 2 5;x is less a b;", 0, 1);
        range("lane a 6 9;lane b 2 5;x is less a b;", 0, 0);
        range("lane a 5 5;x is less a a;", 0, 0);
        range("lane a 5 6;x is less a a;", 0, 1);
    }

    private void rangeOfSame() {
        s.of(10, "same: 1, if all four ends are one, 0, if the RANGES have nothing in common, else 0 to 1");
        range("lane a 5 5;lane b 5 5;x is same a b;", 1, 1);
        range("lane a 5 5;x is same a a;", 1, 1);
        range("lane a 5 6;x is same a a;", 0, 1);
        range("lane a 5 5;lane b 5 6;x is same a b;", 0, 1);
        range("lane a 4 5;lane b 5 5;x is same a b;", 0, 1);
        range("lane a 2 5;lane b 5 9;x is same a b;", 0, 1);
        range("lane a 5 9;lane b 2 5;x is same a b;", 0, 1);
        range("lane a 2 5;lane b 6 9;x is same a b;", 0, 0);
        range("lane a 6 9;lane b 2 5;x is same a b;", 0, 0);
        range("lane a 5 5;lane b 6 6;x is same a b;", 0, 0);
        range("lane a 0 9;lane b 4 5;x is same a b;", 0, 1);
    }

    private void rangeOfBothEitherFlip() {
        s.of(10, "both, either, flip: of the ends likewise");
        String text = "lane a 2 5;n is less a 2;m is less a 3;y is less a 6;";
        String[] ops = {"both n n", "both n m", "both n y", "both m m", "both m y", "both y y", "either n n", "either n m", "either n y",
            "either m m", "either m y", "either y y", "flip n", "flip m", "flip y"};
        int[] least = {0, 0, 0, 0, 0, 1, 0, 0, 1, 0, 1, 1, 1, 0, 0};
        int[] greatest = {0, 0, 0, 1, 1, 1, 0, 1, 1, 1, 1, 1, 1, 1, 0};
        for (int i = 0; i < ops.length; i++) {
            range(text + "x is " + ops[i] + ";", least[i], greatest[i]);
        }
    }

    private void rangeOfPick() {
        s.of(10, "pick: the second one's, if the first is 1, the third one's, if it is 0, else from the least to the greatest of both");
        String text = "lane a 2 5;lane b 4 9;lane c 20 30;n is less a 2;m is less a 3;y is less a 6;";
        range(text + "x is pick y a b;", 2, 5);
        range(text + "x is pick n a b;", 4, 9);
        range(text + "x is pick m a b;", 2, 9);
        range(text + "x is pick m b a;", 2, 9);
        range(text + "x is pick m a c;", 2, 30);
        range(text + "x is pick m c 0;", 0, 30);
        range(text + "x is pick m y n;", 0, 1);
        range(text + "x is pick m y y;", 1, 1);
        range(text + "p is flip n;x is pick m y p;", 1, 1);
    }

    private void known() {
        s.of(9, "KNOWN: least and greatest are one.");
        s.due("a NUMBER", Due.of("show 3;").value(0, 6), 1);
        s.due("an INPUT of one number", Due.of("lane a 3 3;").value(0, 6), 1);
        s.due("an INPUT of two", Due.of("lane a 3 4;").value(0, 6), 0);
        s.due("a product with 0", Due.of("lane a 3 4;b is mul a 0;").value(2, 6), 1);
        s.due("tex of a KNOWN one is not", Due.of("b is tex 3;").value(1, 6), 0);
        s.due("a FLAG of 1", Due.of("lane a 3 4;f is less a 5;").value(2, 6), 1);
        s.due("a FLAG of 0 to 1", Due.of("lane a 3 4;f is less a 4;").value(2, 6), 0);
        s.due("what is held at 99999", Due.of("lane a 400 999;b is mul a a;").value(1, 6), 1);
        s.due("the difference of itself is not", Due.of("lane a 3 4;b is sub a a;").value(1, 6), 0);
    }

    private void standsFor() {
        s.of(9, "A VALUE STANDS FOR itself; but a pick (not KNOWN) of which the first is KNOWN for what the taken one STANDS FOR.");
        String text = "lane a 2 5;lane b 4 9;n is less a 2;m is less a 3;y is less a 6;";
        // a 0, b 1, 2 2, n 3, 3 4, m 5, 6 6, y 7
        int[] want = {0, 1, 8, 8, 9};
        String[] ops = {"pick y a b", "pick n a b", "pick m a b", "add a b", "pick y 77 b"};
        for (int i = 0; i < ops.length; i++) {
            ShaderReady x = Due.of(text + "x is " + ops[i] + ";show x;");
            s.due(ops[i], x.value(x.shown(0), 8), want[i]);
        }
        ShaderReady chain = Due.of(text + "p is pick y a b;q is pick n b p;r is pick y q 3;show r;show q;show p;");
        for (int i = 0; i < 3; i++) {
            s.due("a chain, " + i, chain.value(chain.shown(i), 8), 0);
        }
        ShaderReady known = Due.of(text + "p is pick y 7 b;q is pick y p a;show q;");
        s.due("a KNOWN pick stands for itself", known.value(known.shown(0), 8), known.shown(0));
        ShaderReady open = Due.of(text + "p is pick m a b;q is pick y p a;show q;");
        s.due("for an open pick", open.value(open.shown(0), 8), open.shown(0) - 1);
    }

    private void width() {
        s.of(9, "WIDTH: 1 of a FLAG, of a NUM with a RANGE within -512 to 511 (LOW); else 2.");
        int[][] highs = {{511, 1}, {512, 2}, {999, 2}, {0, 1}};
        for (int[] high : highs) {
            s.due("to " + high[0], Due.of("lane a 0 " + high[0] + ";").value(0, 10), high[1]);
            s.due("LOW to " + high[0], Due.of("lane a 0 " + high[0] + ";").all(3), 2 - high[1]);
        }
        s.due("to -512", Due.of("lane a 0 512;b is sub 0 a;").value(2, 10), 1);
        s.due("to -513", Due.of("lane a 0 513;b is sub 0 a;").value(2, 10), 2);
        s.due("LOW to -512", Due.of("lane a 0 512;b is sub 0 a;").all(3), 0b110);
        s.due("LOW to -513", Due.of("lane a 0 513;b is sub 0 a;").all(3), 0b010);
        s.due("a NUMBER of 511", Due.of("show 511;").value(0, 10), 1);
        s.due("a NUMBER of 512", Due.of("show 512;").value(0, 10), 2);
        ShaderReady flag = Due.of("lane a 0 999;f is less a 5;p is pick f f f;");
        s.due("a FLAG", flag.value(2, 10), 1);
        s.due("a FLAG is not LOW", flag.all(3), 0b010);
        s.due("count(4)", flag.count(4), 1);
    }

    private void valueOthers() {
        s.of(9, "10: WIDTH; -2: others.");
        ShaderReady x = Due.of("lane a 0 9;b is add a 1;show b;");
        for (int what = 0; what <= 10; what++) {
            s.holds("value(2, " + what + ") is told", x.value(2, what) != -2);
        }
        s.due("the VALUE behind the last", x.value(3, 0), -2);
        s.due("what 11", x.value(0, 11), -2);
        for (int far : FAR) {
            s.due("value(" + far + ", 0)", x.value(far, 0), -2);
            s.due("value(0, " + far + ")", x.value(0, far), -2);
        }
        s.due("of none", new ShaderReady().value(0, 0), -2);
    }

    private void noneSuchArgs() {
        s.of(9, "(NONE: none such; of an INPUT, a NUMBER 1: which)");
        ShaderReady x = Due.of("lane a 0 9;lane b 0 9;f is less a b;t is tex b;g is flip f;p is pick f a 44;");
        int[][] want = {{0, NONE, NONE}, {1, NONE, NONE}, {0, 1, NONE}, {1, NONE, NONE}, {2, NONE, NONE}, {44, NONE, NONE}, {2, 0, 5}};
        for (int v = 0; v < want.length; v++) {
            for (int k = 0; k < 3; k++) {
                s.due("value(" + v + ", " + (k + 1) + ")", x.value(v, k + 1), want[v][k]);
            }
        }
        s.of(9, "4: 1 a FLAG, 5: 1 UNIFORM, 6: 1 KNOWN, 7: 1 NEEDED (0: not)");
        int[] flags = {0, 0, 1, 0, 1, 0, 0};
        for (int v = 0; v < flags.length; v++) {
            s.due("FLAG of " + v, x.value(v, 4), flags[v]);
            s.due("UNIFORM of " + v, x.value(v, 5), v == 5 ? 1 : 0);
            s.due("KNOWN of " + v, x.value(v, 6), v == 5 ? 1 : 0);
            s.due("NEEDED of " + v, x.value(v, 7), 0);
        }
        ShaderReady flagged = Due.of("lane a 0 9;f is less a 5;g is pick f f f;h is flip f;k is pick f h f;");
        s.due("a pick of FLAGS", flagged.value(4, 4), 1);
        s.of(9, "9: HEIGHT (0: not NEEDED)");
        ShaderReady y = Due.of("lane a 0 9;b is add a 1;c is add b 2;show b;");
        int[] heights = {2, 0, 1, 0, 0};
        for (int v = 0; v < heights.length; v++) {
            s.due("HEIGHT of " + v, y.value(v, 9), heights[v]);
            s.due("NEEDED of " + v, y.value(v, 7), heights[v] > 0 ? 1 : 0);
        }
    }

    private void rangeOthers() {
        s.of(10, "RANGE of a VALUE, what 0: least, 1: greatest; Integer.MIN_VALUE: others.");
        ShaderReady x = Due.of("lane a 4 9;show a;");
        s.due("least", x.range(0, 0), 4);
        s.due("greatest", x.range(0, 1), 9);
        s.due("what 2", x.range(0, 2), NO_NUMBER);
        s.due("the VALUE behind the last", x.range(1, 0), NO_NUMBER);
        for (int far : FAR) {
            s.due("range(" + far + ", 0)", x.range(far, 0), NO_NUMBER);
            s.due("range(" + far + ", 1)", x.range(far, 1), NO_NUMBER);
            s.due("range(0, " + far + ")", x.range(0, far), NO_NUMBER);
        }
        s.due("of none", new ShaderReady().range(0, 0), NO_NUMBER);
    }

    private void isOthers() {
        s.of(11, "What a VALUE IS in a LANE; Integer.MIN_VALUE: others.");
        ShaderReady x = Due.of("lane a 4 9;b is add a 1;show a;");
        s.due("LANE 0", x.is(2, 0), 5);
        s.due("LANE 3", x.is(2, 3), 5);
        s.due("LANE 4", x.is(2, 4), NO_NUMBER);
        s.due("the VALUE behind the last", x.is(3, 0), NO_NUMBER);
        for (int far : FAR) {
            s.due("is(" + far + ", 0)", x.is(far, 0), NO_NUMBER);
            s.due("is(0, " + far + ")", x.is(0, far), NO_NUMBER);
        }
        s.due("of none", new ShaderReady().is(0, 0), NO_NUMBER);
    }

    private void differs() {
        s.of(12, "LANES in which a VALUE IS another number than in LANE 0, as bits");
        ShaderReady x = Due.of("lane a 0 9;b is min a 4;show b;");
        s.due("none", x.differs(0), 0);
        x.set(0, 3, 1);
        s.due("the last", x.differs(0), 0b1000);
        x.set(0, 1, 5);
        x.set(0, 2, 9);
        s.due("all others", x.differs(0), 0b1110);
        s.due("of b, where two are alike", x.differs(2), 0b1110);
        x.set(0, 0, 7);
        s.due("as LANE 0 now", x.differs(2), 0b1000);
        s.due("of a", x.differs(0), 0b1110);
        s.due("of a NUMBER", x.differs(1), 0);
    }

    private void differsOthers() {
        s.of(12, "than in LANE 0, as bits; NONE: others.");
        ShaderReady x = Due.of("lane a 0 9;show a;");
        s.due("the VALUE behind the last", x.differs(1), NONE);
        for (int far : FAR) {
            s.due("differs(" + far + ")", x.differs(far), NONE);
        }
        s.due("of none", new ShaderReady().differs(0), NONE);
    }

    private void shownNoneSuch() {
        s.of(13, "The i-th SHOWN (from 0); NONE: none such.");
        ShaderReady x = Due.of("lane a 0 9;times 4;show 3;show a;end;");
        s.due("the first", x.shown(0), 1);
        s.due("the last", x.shown(7), 0);
        s.due("behind it", x.shown(8), NONE);
        for (int far : FAR) {
            s.due("shown(" + far + ")", x.shown(far), NONE);
        }
        s.due("fewer", Due.shader(x, "show 4;"), 0);
        s.due("no second one", x.shown(1), NONE);
        s.due("of none", new ShaderReady().shown(0), NONE);
    }

    /** 1 if walked (or ran) throws what the document says; what it answers is held against want otherwise. */
    private void throwsOrIs(ShaderReady x, boolean walked, int lane, int i, boolean there) {
        int threw = 0;
        try {
            int got = walked ? x.walked(lane, i) : x.ran(lane, i);
            s.due("answered", got, 5);
        } catch (NoSuchElementException none) {
            threw = 1;
        }
        s.due("(" + lane + ", " + i + ") throws", threw, there ? 0 : 1);
    }

    private void throwsEverywhere(boolean walked) {
        ShaderReady x = Due.of("lane a 5 9;show a;show 5;");
        throwsOrIs(x, walked, 0, 0, true);
        throwsOrIs(x, walked, 3, 1, true);
        throwsOrIs(x, walked, 4, 0, false);
        throwsOrIs(x, walked, 0, 2, false);
        for (int far : FAR) {
            throwsOrIs(x, walked, far, 0, false);
            throwsOrIs(x, walked, 0, far, false);
            throwsOrIs(x, walked, far, far, false);
        }
        throwsOrIs(new ShaderReady(), walked, 0, 0, false);
        throwsOrIs(Due.of("lane a 5 9;"), walked, 0, 0, false);
        // a call that throws changes nothing
        throwsOrIs(x, walked, 1, 0, true);
    }

    private void walkedThrows() {
        s.of(14, "WALKED, the i-th SHOWN (from 0); NoSuchElementException: none such, no such LANE.");
        throwsEverywhere(true);
    }

    private void ranThrows() {
        s.of(15, "RUN, likewise.");
        throwsEverywhere(false);
    }

    private void ranKnown() {
        s.of(15, "what a SHOWN one is then (a KNOWN one what it is)");
        ShaderReady x = Due.of("lane a 5 9;b is mul a 0;f is less a 10;c is pick f a 3;d is pick f 8 a;e is add c d;"
            + "show 999;show b;show c;show d;show e;");
        x.set(0, 2, 9);
        int[] want = {999, 0, 9, 8, 17};
        for (int rule = 0; rule < 4; rule++) {
            x.rule(rule);
            for (int i = 0; i < want.length; i++) {
                s.due("ran(2, " + i + ")", x.ran(2, i), want[i]);
                s.due("walked(2, " + i + ")", x.walked(2, i), want[i]);
            }
        }
        ShaderReady none = Due.of("lane a 5 5;b is add a a;show b;");
        s.due("nothing is NEEDED", none.count(3), 0);
        s.due("ran all the same", none.ran(1, 0), 10);
    }

    private void all() {
        s.of(16, "5: SHOWN, 6: tex; 0: others.");
        ShaderReady x = Due.of("lane a 0 9;given g 0 999;b is tex a;f is less a g;show b;show b;show 3;");
        // a 0, g 1, b 2, f 3, 3 4
        long[] want = {0b00101, 0b10010, 0b10000, 0b10001, 0b01000, 0b10100, 0b00100, 0, 0};
        for (int what = 0; what < want.length; what++) {
            s.due("all(" + what + ")", x.all(what), want[what]);
        }
        for (int far : FAR) {
            s.due("all(" + far + ")", x.all(far), 0);
        }
        s.of(16, "VALUES as bits");
        ShaderReady full = Due.of("lane a 0 9;b is copy a;times 9;times 7;b is add b a;end;end;show b;");
        s.due("the 64th is the highest bit", full.all(5), Long.MIN_VALUE);
        s.due("all 64", full.all(0), -1L);
        s.due("none", full.all(4), 0);
        s.due("of no VALUES", new ShaderReady().all(1), 0);
    }

    private void whatItIs() {
        s.of(14, "It is what it IS.");
        ShaderReady x = Due.of("lane a 0 999;given g 3 9;f is less a 500;b is copy a;times 3;when f;b is mul b g;h is less b 400;when h;"
            + "b is sub b 900;else;b is tex b;end;else;b is sub 5 b;f is flip f;end;show b;end;c is max b 7;show c;");
        for (int cell = 0; cell < 16; cell++) {
            x.cell(cell, 61 * cell % 1000);
        }
        int[] numbers = {0, 170, 499, 999};
        for (int lane = 0; lane < 4; lane++) {
            x.set(0, lane, numbers[lane]);
        }
        for (int i = 0; i < 4; i++) {
            for (int lane = 0; lane < 4; lane++) {
                s.due("walked(" + lane + ", " + i + ")", x.walked(lane, i), x.is(x.shown(i), lane));
            }
        }
        s.due("0 * 3 - 900", x.walked(0, 0), -900);
        s.due("5 - 999", x.walked(3, 0), -994);
    }

    private void workedByRegisters() {
        s.of(15, "RUN: the ORDER is worked by REGISTERS, in each LANE");
        // a and b are taken again and again in the same HALVES, FILE 0 has its own
        ShaderReady x = Due.of("lane a 1 9;given g 2 9;b is mul a g;times 4;b is add b a;b is mul b 2;end;show b;"
            + "h is add g 5;c is sub h b;show c;show h;");
        for (int lane = 0; lane < 4; lane++) {
            x.set(0, lane, 2 + 2 * lane);
        }
        for (int rule = 0; rule < 4; rule++) {
            x.rule(rule);
            for (int lane = 0; lane < 4; lane++) {
                int a = 2 + 2 * lane;
                int b = 2 * a;
                for (int i = 0; i < 4; i++) {
                    b = (b + a) * 2;
                }
                s.due("ran(" + lane + ", 0)", x.ran(lane, 0), b);
                s.due("ran(" + lane + ", 1)", x.ran(lane, 1), 7 - b);
                s.due("ran(" + lane + ", 2)", x.ran(lane, 2), 7);
            }
        }
    }

    private void howItIsMade() {
        s.of(9, "Of a VALUE, what 0: how it is made (0 INPUT, 1 NUMBER, 2 add, 3 sub, 4 mul, 5 min, 6 max, 7 tex, 8 less, 9 same, 10 both, 11 either, 12 flip, "
            + "13 pick)");
        ShaderReady x = Due.of("lane a 0 9;lane b 0 9;p is add a b;p is sub a b;p is mul a b;p is min a b;p is max a b;p is tex a;"
            + "f is less a b;g is same a b;h is both f g;h is either f g;h is flip f;p is pick f a b;q is copy p;show 4;");
        int[] want = {0, 0, 2, 3, 4, 5, 6, 7, 8, 9, 10, 11, 12, 13, 1};
        s.due("VALUES", x.count(0), want.length);
        for (int v = 0; v < want.length; v++) {
            s.due("value(" + v + ", 0)", x.value(v, 0), want[v]);
        }
    }

    private void whatItStandsFor() {
        s.of(9, "8: what it STANDS FOR");
        ShaderReady x = Due.of("lane a 0 9;f is less a 50;p is pick f a 7;show p;");
        int[] want = {0, 1, 2, 3, 0};
        for (int v = 0; v < want.length; v++) {
            s.due("value(" + v + ", 8)", x.value(v, 8), want[v]);
        }
    }

    private void allWhats() {
        s.of(16, "what 0: NEEDED, 1: UNIFORM, 2: KNOWN, 3: LOW, 4: FLAGS");
        ShaderReady x = Due.of("given g 0 9;lane a 600 700;f is less a g;h is less a 650;b is add a 1;show b;");
        // g 0, a 1, f 2 (0), 650 3, h 4, 1 5, b 6
        s.due("NEEDED", x.all(0), 0b1000010);
        s.due("UNIFORM", x.all(1), 0b0101001);
        s.due("KNOWN", x.all(2), 0b0101100);
        s.due("LOW", x.all(3), 0b0100001);
        s.due("FLAGS", x.all(4), 0b0010100);
    }
}
