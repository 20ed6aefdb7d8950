/** Tokens, LINES and NAMES: what a text may be and what it may not be, of promise 3. */
final class TextEdges {
    private static final String FLAG = "f is less 1 2;";
    private static final String[] HEADS = {"given", "lane", "fetch", "alu", "is", "when", "else", "times", "end", "show"};
    private static final String[] OPS = {"add", "sub", "mul", "min", "max", "tex", "less", "same", "both", "either", "flip",
        "pick", "copy"};

    private final Sentences s;

    TextEdges(Sentences s) {
        this.s = s;
    }

    void ask() {
        s.each(this::asLongAsCanBe, this::blanksBetween, this::words, this::numbers, this::theSign, this::longerOnes,
            this::anyNumberOfLines, this::lowAndHigh, this::sixInputs, this::inputsNotWithin, this::fetch, this::alu,
            this::onceEach, this::elseLeftOut, this::times, this::fourWithinOneAnother, this::showNotWithinWhen, this::args,
            this::opsOfTwoNums, this::tex, this::flagsOfNums, this::flagsOfFlags, this::flip, this::pick, this::copy,
            this::whenAndShow, this::otherWords, this::toldAgain, this::toldToTheEndOfThePart, this::anotherOneElsewhere,
            this::twentyNames, this::forms, this::types, this::toldBy, this::byTheText);
    }

    static String names(int count) {
        StringBuilder text = new StringBuilder();
        for (int i = 0; i < count; i++) {
            text.append('n').append((char) ('a' + i)).append(" is copy 1;");
        }
        return text.toString();
    }

    private void asLongAsCanBe() {
        s.of(3, "TOKENS, each as long as can be");
        s.due("12 is one", Due.of("show12;").value(0, 1), 12);
        s.noFault("shows is copy 1;show shows;");
        s.fault(1, "showx^;");
        s.fault(1, "x is ^addx 1 2;");
        s.fault(1, "x ^isadd 1 2;");
        s.noFault("x is add1 2;");
    }

    private void blanksBetween() {
        s.of(3, "blanks (10, 32) between where one likes");
        s.noFault("\n x \nis  copy\n\n1 ; \n show\nx\n;\n ");
        s.noFault("show1;show2;");
        s.noFault(" ");
        s.noFault("\n");
        s.fault(1, "sh ^ow 1;");
        s.fault(1, "sh\n^ow 1;");
        s.fault(1, "show 1 ^2;");
        s.fault(1, "show 1\n^2;");
        s.fault(1, "show 1;\n \n^?");
    }

    private void words() {
        s.of(3, "WORDS (letters a .. z, 7 at most)");
        s.noFault("a is copy 1;z is copy 1;azazaza is copy z;show azazaza;");
        s.noFault("abcdefg is copy 1;show abcdefg;");
        s.fault(1, "^abcdefgh is copy 1;");
        s.fault(1, "show ^abcdefgh;");
        s.fault(2, "abcdefg is copy 1;show ^abcdefh;");
        s.fault(2, "abcdefg is copy 1;show ^bbcdefg;");
        s.fault(2, "abcdefg is copy 1;show ^abcdef;");
        s.fault(1, "^`");
        s.fault(1, "^{");
        s.fault(1, "a^{");
        s.fault(1, "^A is copy 1;");
        s.fault(1, "^Z is copy 1;");
        s.fault(1, "x^Y is copy 1;");
    }

    private void numbers() {
        s.of(3, "NUMBERS (1 to 3 digits; a letter may stand right behind)");
        s.due("0", Due.of("show 0;").value(0, 1), 0);
        s.due("9", Due.of("show 9;").value(0, 1), 9);
        s.due("999", Due.of("show 999;").value(0, 1), 999);
        s.due("000 is 0", Due.of("show 000;show 0;show 00;").count(0), 1);
        s.due("007 is 7", Due.of("show 007;").value(0, 1), 7);
        s.fault(1, "show ^1000;");
        s.fault(1, "show ^0000;");
        s.noFault("y is copy 1;x is add 1y;show x;");
        s.noFault("y is copy 1;x is add 999y;show x;");
        s.fault(1, "show ^/;");
        s.fault(1, "show ^:;");
        s.fault(1, "show 1^:");
        s.fault(1, "show ^-1;");
    }

    private void theSign() {
        s.of(3, "the sign ;");
        s.noFault("show 1;");
        for (char sign = 33; sign <= 126; sign++) {
            boolean other = !Character.isLetterOrDigit(sign) && sign != ';' || Character.isUpperCase(sign);
            if (other) {
                s.fault(1, "show 1^" + sign);
                s.fault(1, "show 1;^" + sign + "show 2;");
            }
        }
        s.fault(1, "^;");
        s.fault(1, "show 1;^;");
    }

    private void longerOnes() {
        s.of(3, "All else (a longer WORD or NUMBER, too, at its first sign) is none.");
        s.fault(1, "  ^abcdefgh");
        s.fault(1, "  ^abcdefghijklmnopqrstuvwxyz;");
        s.fault(1, "x ^isisisis");
        s.fault(1, "x is ^additions 1 2;");
        s.fault(1, "lane a ^1000 1000;");
        s.fault(1, "lane a 0 ^12345678901234567890;");
        s.fault(1, "times ^0002;");
        s.fault(1, "times ^0002");
    }

    private void anyNumberOfLines() {
        s.of(3, "SHADER: any number of LINES");
        s.noFault("");
        s.noFault("show 1;");
        s.noFault("times2;end;".repeat(90));
        // 185 lines: no text has many more
        ShaderReady x = new ShaderReady();
        s.due("61 whens", Due.shader(x, FLAG + "when f;else;end;".repeat(61)), 0);
        s.due("count(10)", x.count(10), 61);
        s.due("parts(60)", x.parts(60), 0);
        s.due("parts(61)", x.parts(61), -1);
    }

    private void lowAndHigh() {
        s.of(3, "given, lane: an INPUT from a low to a high (no less)");
        for (String kind : new String[] {"given", "lane"}) {
            s.noFault(kind + " a 5 5;");
            s.noFault(kind + " a 5 6;");
            s.noFault(kind + " a 0 0;");
            s.noFault(kind + " a 0 999;");
            s.noFault(kind + " a 999 999;");
            s.fault(4, kind + " a 5 ^4;");
            s.fault(4, kind + " a 999 ^0;");
            s.fault(4, kind + " a 1 ^000;");
        }
    }

    private void sixInputs() {
        s.of(3, "6 at most, numbered as told");
        String six = "lane a 1 9;given b 2 9;lane c 3 9;given d 4 9;lane e 5 9;given g 6 9;";
        ShaderReady x = Due.of(six);
        s.due("six", x.count(1), 6);
        for (int i = 0; i < 6; i++) {
            s.due("low of " + i, x.input(i, 1), i + 1);
        }
        s.due("no seventh", x.input(6, 1), -1);
        s.fault(5, six + "^lane h 0 1;");
        s.fault(5, six + "^given h 0 1;");
    }

    private void inputsNotWithin() {
        s.of(3, "numbered as told; not within when, times");
        for (String kind : new String[] {"given", "lane"}) {
            s.fault(1, FLAG + "when f;^" + kind + " a 0 1;end;");
            s.fault(1, FLAG + "when f;else;^" + kind + " a 0 1;end;");
            s.fault(1, "times 2;^" + kind + " a 0 1;end;");
            s.fault(1, FLAG + "times 2;when f;end;^" + kind + " a 0 1;end;");
            s.noFault(FLAG + "when f;end;" + kind + " a 0 1;");
            s.noFault("times 2;end;" + kind + " a 0 1;");
        }
    }

    private void fetch() {
        s.of(3, "fetch 1 to 8 (4)");
        s.fault(4, "fetch ^0;");
        s.due("1", Due.of("fetch 1;").count(7), 1);
        s.due("8", Due.of("fetch 8;").count(7), 8);
        s.fault(4, "fetch ^9;");
        s.fault(4, "fetch ^999;");
        ShaderReady x = Due.of("fetch 8;");
        for (int i = 0; i < 3; i++) {
            s.due("not told", Due.shader(x, "alu 2;"), 0);
            s.due("is 4", x.count(7), 4);
        }
    }

    private void alu() {
        s.of(3, "alu 1 to 16 (8)");
        s.fault(4, "alu ^0;");
        s.due("1", Due.of("alu 1;").count(8), 1);
        s.due("16", Due.of("alu 16;").count(8), 16);
        s.fault(4, "alu ^17;");
        s.fault(4, "alu ^999;");
        ShaderReady x = Due.of("alu 16;");
        for (int i = 0; i < 3; i++) {
            s.due("not told", Due.shader(x, "fetch 2;"), 0);
            s.due("is 8", x.count(8), 8);
        }
    }

    private void onceEach() {
        s.of(3, "once each, not within when, times");
        for (String kind : new String[] {"fetch", "alu"}) {
            String other = kind.equals("alu") ? "fetch" : "alu";
            s.noFault(kind + " 1;" + other + " 1;");
            s.fault(3, kind + " 1;^" + kind + " 1;");
            s.fault(3, kind + " 1;" + other + " 1;show 1;^" + kind + " 2;");
            s.fault(1, FLAG + "when f;^" + kind + " 1;end;");
            s.fault(1, FLAG + "when f;else;^" + kind + " 1;end;");
            s.fault(1, "times 2;^" + kind + " 1;end;");
            s.noFault("times 2;end;" + FLAG + "when f;else;end;" + kind + " 1;");
        }
    }

    private void elseLeftOut() {
        s.of(3, "(else ; LINES may be left out)");
        s.noFault(FLAG + "when f;end;");
        s.noFault(FLAG + "when f;else;end;");
        s.noFault(FLAG + "when f;when f;else;end;end;");
        s.noFault(FLAG + "when f;when f;end;else;end;");
        s.fault(1, FLAG + "when f;else;^else;end;");
        s.fault(1, FLAG + "when f;end;^else;");
        s.fault(1, "times 2;^else;end;");
        s.fault(1, FLAG + "when f;times 2;^else;end;end;");
        s.fault(1, "^else;");
        ShaderReady x = Due.of("lane a 0 9;f is less a 5;b is copy a;when f;b is copy 7;end;show b;");
        s.due("the second part is as the begin", x.value(x.shown(0), 3), 0);
    }

    private void times() {
        s.of(3, "times N (2 to 9)");
        s.fault(4, "times ^0;end;");
        s.fault(4, "times ^1;end;");
        s.noFault("times 2;end;");
        s.noFault("times 9;end;");
        s.fault(4, "times ^10;end;");
        s.fault(4, "times ^999;end;");
        s.fault(1, "x is copy 2;times ^x;end;");
    }

    private void fourWithinOneAnother() {
        s.of(3, "4 within one another at most");
        s.noFault("times 2;times 2;times 2;times 2;end;end;end;end;");
        s.noFault(FLAG + "when f;when f;when f;when f;else;end;end;end;end;");
        s.noFault(FLAG + "when f;else;times 2;when f;times 2;end;times 2;end;end;end;when f;end;end;");
        s.fault(5, "times 2;times 2;times 2;times 2;^times 2;");
        s.fault(5, FLAG + "when f;when f;when f;when f;^when f;");
        s.fault(5, FLAG + "times 2;when f;times 2;when f;else;^times 2;");
        s.fault(5, FLAG + "when f;times 2;when f;times 2;end;times 2;^when f;");
    }

    private void showNotWithinWhen() {
        s.of(3, "show: not within when.");
        s.fault(1, FLAG + "when f;^show 1;end;");
        s.fault(1, FLAG + "when f;else;^show 1;end;");
        s.fault(1, FLAG + "when f;times 2;^show 1;end;end;");
        s.fault(1, FLAG + "times 2;when f;when f;end;^show 1;end;end;");
        s.noFault(FLAG + "times 2;when f;end;show 1;end;");
        s.noFault("times 2;times 2;show 1;end;end;");
    }

    private void args() {
        s.of(3, "ARG: a NAME that is told, or a NUMBER.");
        s.noFault("x is copy 1;y is copy x;show y;show 3;");
        s.fault(2, "y is copy ^x;");
        s.fault(2, "x is copy ^x;");
        s.fault(2, "show ^x;x is copy 1;");
        s.fault(1, "x is copy ^;");
        s.fault(1, "x is copy ^is;");
        s.fault(1, "x is copy ^tex 1;");
        s.fault(1, "x is copy^");
        s.fault(1, "x is copy ^?;");
    }

    /** Each ARG of an OP of two, of both TYPES: u is a NUM, f a FLAG. */
    private void pairOf(String op, boolean flags) {
        String text = FLAG + "u is copy 1;";
        String good = flags ? "f" : "u";
        String bad = flags ? "u" : "f";
        s.noFault(text + "x is " + op + " " + good + " " + good + ";");
        s.fault(6, text + "x is " + op + " ^" + bad + " " + good + ";");
        s.fault(6, text + "x is " + op + " " + good + " ^" + bad + ";");
        s.fault(1, text + "x is " + op + " " + good + "^;");
        s.fault(1, text + "x is " + op + " " + good + " " + good + " ^" + good + ";");
    }

    private void opsOfTwoNums() {
        s.of(3, "OPS: add, sub, mul, min, max of two NUMS: NUM");
        for (String op : new String[] {"add", "sub", "mul", "min", "max"}) {
            pairOf(op, false);
            s.noFault("x is " + op + " 1 2;show x;");
            s.fault(6, "x is " + op + " 1 2;y is flip ^x;");
        }
    }

    private void tex() {
        s.of(3, "tex of a NUM: NUM");
        s.noFault("x is tex 1;show x;");
        s.fault(6, FLAG + "x is tex ^f;");
        s.fault(6, "x is tex 1;y is flip ^x;");
        s.fault(1, "x is tex^;");
        s.fault(1, "x is tex 1 ^1;");
    }

    private void flagsOfNums() {
        s.of(3, "less, same of two NUMS: FLAG");
        for (String op : new String[] {"less", "same"}) {
            pairOf(op, false);
            s.noFault("x is " + op + " 1 2;when x;end;");
            s.fault(6, "x is " + op + " 1 2;show ^x;");
        }
    }

    private void flagsOfFlags() {
        s.of(3, "both, either of two FLAGS: FLAG");
        for (String op : new String[] {"both", "either"}) {
            pairOf(op, true);
            s.noFault(FLAG + "x is " + op + " f f;when x;end;");
            s.fault(6, FLAG + "x is " + op + " f f;show ^x;");
            s.fault(6, FLAG + "x is " + op + " f ^1;");
        }
    }

    private void flip() {
        s.of(3, "flip of a FLAG: FLAG");
        s.noFault(FLAG + "x is flip f;when x;end;");
        s.fault(6, FLAG + "x is flip f;show ^x;");
        s.fault(6, "x is flip ^1;");
        s.fault(1, FLAG + "x is flip^;");
        s.fault(1, FLAG + "x is flip f ^f;");
    }

    private void pick() {
        s.of(3, "pick of a FLAG and two of one TYPE: that TYPE");
        s.noFault(FLAG + "x is pick f 1 2;show x;");
        s.noFault(FLAG + "x is pick f f f;when x;end;");
        s.fault(6, FLAG + "x is pick ^1 1 2;");
        s.fault(6, FLAG + "x is pick f 1 ^f;");
        s.fault(6, FLAG + "x is pick f f ^1;");
        s.fault(6, FLAG + "x is pick f f f;show ^x;");
        s.fault(6, FLAG + "x is pick f 1 2;when ^x;");
        s.fault(1, FLAG + "x is pick f 1^;");
        s.fault(1, FLAG + "x is pick f 1 2 ^3;");
    }

    private void copy() {
        s.of(3, "copy of one: its TYPE");
        s.noFault(FLAG + "x is copy 1;show x;y is copy f;when y;end;");
        s.fault(6, FLAG + "x is copy f;show ^x;");
        s.fault(6, "x is copy 1;when ^x;");
        s.fault(1, "x is copy^;");
        s.fault(1, "x is copy 1 ^1;");
    }

    private void whenAndShow() {
        s.of(3, "when: a FLAG; show: a NUM.");
        s.fault(6, "when ^1;end;");
        s.fault(6, "lane a 0 1;when ^a;end;");
        s.fault(6, FLAG + "show ^f;");
        s.noFault(FLAG + "lane a 0 1;when f;end;show a;show 1;");
        s.fault(1, "when^;");
        s.fault(1, "show^;");
        s.fault(1, FLAG + "when f ^f;");
        s.fault(1, "show 1 ^1;");
    }

    private void otherWords() {
        s.of(3, "A NAME is another WORD than given, lane, fetch, alu, is, when, else, times, end, show, the OPS.");
        for (String word : HEADS) {
            notAName(word);
        }
        for (String word : OPS) {
            notAName(word);
            s.fault(1, "^" + word + " is copy 1;");
        }
        s.fault(1, "^is is copy 1;");
        s.noFault("giv is copy 1;givens is copy 1;lanes is copy 1;ad is copy 1;adds is copy 1;i is copy 1;iss is copy 1;");
    }

    private void notAName(String word) {
        s.fault(1, "lane ^" + word + " 0 1;");
        s.fault(1, "given ^" + word + " 0 1;");
        s.fault(1, "show ^" + word + ";");
        s.noFault(word + "q is copy 1;");
    }

    private void toldAgain() {
        s.of(3, "(again by is: it is another VALUE then, of its TYPE; not an INPUT)");
        ShaderReady x = Due.of("x is copy 1;show x;x is copy 2;show x;x is add x x;show x;");
        s.due("first", x.shown(0), 0);
        s.due("another", x.shown(1), 1);
        s.due("of itself", x.value(x.shown(2), 1), 1);
        s.due("one NAME", x.count(12), 1);
        s.fault(6, "x is copy 1;x is ^less 1 2;");
        s.fault(6, FLAG + "f is ^add 1 2;");
        s.fault(3, "lane a 0 1;^a is copy 1;");
        s.fault(3, "given a 0 1;^a is copy a;");
    }

    private void toldToTheEndOfThePart() {
        s.of(3, "what is first told within a part of a when is told to the end of that part alone");
        s.noFault(FLAG + "when f;x is copy 1;y is copy x;when f;z is copy x;else;z is copy x;end;y is copy x;end;");
        s.fault(2, FLAG + "when f;x is copy 1;else;y is copy ^x;end;");
        s.fault(2, FLAG + "when f;x is copy 1;end;show ^x;");
        s.fault(2, FLAG + "when f;else;x is copy 1;end;show ^x;");
        s.fault(2, FLAG + "when f;times 2;x is copy 1;end;y is copy x;end;show ^x;");
        s.fault(2, FLAG + "when f;when f;x is copy 1;end;y is copy ^x;end;");
        s.fault(2, FLAG + "times 2;when f;y is copy ^x;end;x is copy 1;end;");
        s.noFault("times 2;x is copy 1;end;show x;");
    }

    private void anotherOneElsewhere() {
        s.of(3, "(a NAME like it told elsewhere is another one)");
        s.noFault(FLAG + "when f;x is copy 1;else;x is copy f;end;x is copy 1;show x;");
        s.noFault(FLAG + "when f;x is copy f;end;lane x 0 1;show x;");
        ShaderReady x = Due.of("lane a 0 9;f is less a 5;when f;x is add a 1;end;x is copy a;show x;");
        s.due("no pick of the one in the part", x.shown(0), 0);
        s.due("nor a VALUE of it", x.all(0), 1);
        s.fault(3, "lane x 0 1;" + FLAG + "when f;^x is copy 1;");
    }

    private void twentyNames() {
        s.of(3, "20 are told at once at most.");
        ShaderReady x = Due.of(names(20) + "na is copy 2;nt is copy 3;");
        s.due("20", x.count(12), 20);
        s.fault(5, names(20) + "^nu is copy 1;");
        s.fault(5, names(20) + "lane ^nu 0 1;");
        s.fault(5, names(20) + "given ^nu 0 1;");
        s.fault(5, "lane a 0 1;" + names(19) + "^nu is copy 1;");
        // at once: those of a part are told no more behind it
        s.noFault(FLAG + names(18) + "when f;x is copy 1;else;y is copy 1;end;when f;z is copy 1;end;w is copy 1;");
        s.fault(5, FLAG + names(18) + "when f;x is copy 1;^y is copy 1;");
        s.fault(5, FLAG + names(18) + "when f;x is copy 1;end;y is copy 1;^z is copy 1;");
    }

    private void forms() {
        s.of(3, "given NAME N N ; lane NAME N N ; fetch N ; alu N ; NAME is OP ARGS ; when ARG ; else ; times N ; end ; show ARG ;");
        String[] lines = {"given a 1 2 ;", "lane a 1 2 ;", "fetch 1 ;", "alu 1 ;", "x is copy 1 ;", "show 1 ;"};
        for (String line : lines) {
            s.noFault(line);
            s.fault(1, line.substring(0, line.length() - 1) + "^");
            s.fault(1, line.substring(0, line.length() - 1) + "^show 1;");
            s.fault(1, line + "^;");
        }
        s.noFault(FLAG + "when f ; else ; end ; times 2 ; end ;");
        s.fault(1, FLAG + "when f ^else ;");
        s.fault(1, FLAG + "when f ; else ^end ;");
        s.fault(1, FLAG + "when f ; else ; end ^times 2 ;");
        s.fault(1, "times 2 ^end ;");
        s.fault(1, "times 2 ; end ^");
    }

    private void types() {
        s.of(3, "TYPES: NUM (NUMBERS, INPUTS), FLAG.");
        s.noFault("lane a 0 1;given b 0 1;show a;show b;show 1;x is add a b;");
        s.fault(6, "lane a 0 1;x is flip ^a;");
        s.fault(6, "given a 0 1;x is flip ^a;");
        s.fault(6, "x is flip ^0;");
        s.fault(6, "x is flip ^1;");
    }

    private void toldBy() {
        s.of(3, "It is told by given, lane, is");
        s.noFault("given a 0 1;show a;");
        s.noFault("lane a 0 1;show a;");
        s.noFault("a is copy 1;show a;");
        s.fault(2, "show ^a;");
        s.fault(2, "when ^a;");
        s.due("each is one", Due.of("given a 0 1;lane b 0 1;c is copy 1;").count(12), 3);
    }

    private void byTheText() {
        s.of(3, "What is told where goes by the text");
        // worked a second time, the begin of a times has what its end told: by the text it has not
        s.fault(2, "times 2;y is copy ^x;x is copy 1;end;");
        s.fault(2, FLAG + "times 2;when f;y is copy ^x;end;x is copy 1;end;");
        s.noFault("times 2;x is copy 1;y is copy x;end;show y;");
        // whichever part is taken, each tells its own
        s.fault(2, FLAG + "when f;x is copy 1;end;show ^x;");
        s.fault(2, "f is less 2 1;when f;else;x is copy 1;end;show ^x;");
    }
}
