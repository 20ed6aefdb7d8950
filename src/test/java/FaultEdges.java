/** The sentences of the FAULTS, of promise 3: which token, which kind, and that all stays. */
final class FaultEdges {
    private static final String FLAG = "f is less 1 2;";
    private static final String SIX = "lane a 0 1;lane b 0 1;lane c 0 1;lane d 0 1;lane e 0 1;lane g 0 1;";
    private static final String FOUR = FLAG + "times 2;when f;times 2;when f;";

    private final Sentences s;

    FaultEdges(Sentences s) {
        this.s = s;
    }

    void ask() {
        s.each(this::placeFromZero, this::theEnd, this::firstFromTheLeft, this::theLeast, this::cannotStand, this::notTold,
            this::toldAlready, this::nameOfAnInput, this::secondTime, this::notAsTold, this::seventhInput, this::twentyFirst,
            this::withinFour, this::anotherType, this::pickAsTheName, this::copyAsTheName, this::anotherOp, this::allStays,
            this::nothingWrong);
    }

    private void placeFromZero() {
        s.of(3, "FAULTS, kind + 16 * the place (from 0) of a token");
        s.due("at 0", Due.shader(new ShaderReady(), "?"), 1);
        s.due("at 1", Due.shader(new ShaderReady(), " ?"), 17);
        s.due("kind 2 at 5", Due.shader(new ShaderReady(), "show x;"), 2 + 16 * 5);
        s.due("blanks count", Due.shader(new ShaderReady(), "\n\n\n show x;"), 2 + 16 * 9);
        s.due("at 999", Due.shader(new ShaderReady(), " ".repeat(999) + "?"), 1 + 16 * 999);
    }

    private void theEnd() {
        s.of(3, "the end being one at the text's length");
        s.fault(1, "x^");
        s.fault(1, "show 1^");
        s.fault(1, "times 2;^");
        s.fault(1, FLAG + "when f;^");
        s.fault(1, FLAG + "when f;else;^");
        s.fault(1, "given^");
        // blanks behind the last token are of the text
        s.fault(1, "times 2; \n ^");
        s.fault(1, "show 1   ^");
        s.due("of 1,000 signs", Due.shader(new ShaderReady(), "times 2;" + " ".repeat(992)), 1 + 16 * 1000);
    }

    private void firstFromTheLeft() {
        s.of(3, "of the first token from the left that is wrong the least");
        s.fault(2, "show ^x;?");
        s.fault(1, "^?;show x;");
        s.fault(6, FLAG + "x is add ^f y;");
        s.fault(4, "fetch ^9 9;");
        s.fault(3, "lane a 0 1;lane ^a 5 4;");
        s.fault(6, "x is copy 1;x is ^less y z;");
    }

    private void theLeast() {
        s.of(3, "that is wrong the least: 1 it is none, or can't stand there");
        // 1 ahead of 3, of 5
        s.fault(1, "fetch 1;times 2;^fetch 1;");
        s.fault(1, "alu 1;times 2;^alu 1;");
        s.fault(1, SIX + "times 2;^lane h 0 1;");
        // 3 ahead of 5
        s.fault(3, TextEdges.names(20) + "lane ^na 0 1;");
        s.fault(3, "lane a 0 1;" + TextEdges.names(19) + "^a is copy 1;");
        // of a seventh INPUT it is the head that is wrong, whatever NAME it has
        s.fault(5, SIX + "^lane a 0 1;");
    }

    private void cannotStand() {
        s.of(3, "1 it is none, or can't stand there");
        String[] texts = {"^;", "^5;", "^is;", "^add;", "^end;", "^else;", "x ^;", "x ^copy 1;", "x is ^;", "x is ^x;", "x is ^1;",
            "x is ^show 1;", "x is add ^;", "given ^;", "given ^1 2;", "given a ^;", "given a ^b 2;", "given a 1 ^;", "given a 1 2 ^3;",
            "fetch ^;", "fetch ^x;", "fetch 1 ^1;", "alu ^;", "alu ^x;", "alu 1 ^1;", "times ^;", "times 2 ^2;", "times 2;end ^end;",
            "times 2;end;^end;", "show ^;", "when ^;", FLAG + "when f ^else;", FLAG + "when f;else ^end;"};
        for (String text : texts) {
            s.fault(1, text);
        }
    }

    private void notTold() {
        s.of(3, "2 a NAME that is not told");
        String[] texts = {"show ^x;", "when ^x;", "y is copy ^x;", "y is add ^x 1;", "y is add 1 ^x;", "y is tex ^x;", "y is flip ^x;",
            "y is pick ^x 1 2;", FLAG + "y is pick f ^x 2;", FLAG + "y is pick f 1 ^x;", "y is add ^y 1;"};
        for (String text : texts) {
            s.fault(2, text);
        }
    }

    private void toldAlready() {
        s.of(3, "3 given, lane: a NAME told already");
        for (String kind : new String[] {"given", "lane"}) {
            s.fault(3, "given a 0 1;" + kind + " ^a 0 1;");
            s.fault(3, "lane a 0 1;" + kind + " ^a 0 1;");
            s.fault(3, "a is copy 1;" + kind + " ^a 0 1;");
            s.fault(3, "times 2;a is copy 1;end;" + kind + " ^a 0 1;");
            s.noFault(FLAG + "when f;a is copy 1;else;a is copy 1;end;" + kind + " a 0 1;");
        }
    }

    private void nameOfAnInput() {
        s.of(3, "is: a NAME of an INPUT");
        s.fault(3, "lane a 0 1;^a is add a 1;");
        s.fault(3, "given a 0 1;^a is less a 1;");
        s.fault(3, "given a 0 1;times 2;^a is copy 1;");
        s.fault(3, "given a 0 1;" + FLAG + "when f;else;^a is copy 1;");
        s.fault(3, "given a 0 1;^a");
    }

    private void secondTime() {
        s.of(3, "fetch, alu a second time");
        s.fault(3, "fetch 4;^fetch 4;");
        s.fault(3, "alu 8;^alu 8;");
        s.fault(3, "fetch 4;alu 8;^fetch;");
        s.fault(3, "alu 8;fetch 4;^alu 99;");
        ShaderReady x = Due.of("fetch 2;alu 2;");
        s.due("another text is no second time", Due.shader(x, "alu 3;fetch 3;"), 0);
    }

    private void notAsTold() {
        s.of(3, "4 a NUMBER that is not as told");
        String[] texts = {"given a 1 ^0;", "lane a 999 ^998;", "fetch ^0;", "fetch ^9;", "alu ^0;", "alu ^17;", "times ^1;", "times ^10;"};
        for (String text : texts) {
            s.fault(4, text);
        }
    }

    private void seventhInput() {
        s.of(3, "5 one too many: given, lane of a seventh INPUT");
        s.noFault(SIX);
        s.fault(5, SIX + "^given");
        s.fault(5, SIX + "^lane");
        s.fault(5, SIX + "x is copy 1;^given h 0 1;");
    }

    private void twentyFirst() {
        s.of(3, "the NAME of a 21st");
        s.noFault(TextEdges.names(20));
        s.fault(5, TextEdges.names(20) + "^x");
        s.fault(5, TextEdges.names(20) + "times 2;^x is copy 1;");
        s.fault(5, TextEdges.names(20) + "given ^x");
        s.fault(5, FLAG + TextEdges.names(19) + "when f;^x is copy 1;");
    }

    private void withinFour() {
        s.of(3, "when, times within 4 others");
        s.noFault(FOUR + "end;end;end;end;");
        s.fault(5, FOUR + "^when");
        s.fault(5, FOUR + "^times");
        s.fault(5, FOUR + "else;^when f;");
        s.noFault(FOUR + "end;when f;end;end;end;end;");
        s.fault(5, FOUR + "end;when f;^times 2;");
    }

    private void anotherType() {
        s.of(3, "6 an ARG of another TYPE than it must be");
        String[] texts = {"x is add ^f 1;", "x is sub 1 ^f;", "x is mul ^f 1;", "x is min 1 ^f;", "x is max ^f 1;", "x is tex ^f;",
            "x is less 1 ^f;", "x is same ^f 1;", "x is both ^1 f;", "x is either f ^1;", "x is flip ^1;", "x is pick ^1 1 1;",
            "when ^1;", "show ^f;"};
        for (String text : texts) {
            s.fault(6, FLAG + text);
        }
    }

    private void pickAsTheName() {
        s.of(3, "(of pick the second FLAG or NUM as the NAME, if it is told, the third as the second;");
        s.fault(6, FLAG + "x is copy 1;x is pick f ^f f;");
        s.fault(6, FLAG + "f is pick f ^1 2;");
        s.noFault(FLAG + "x is copy 1;x is pick f 1 x;");
        s.noFault(FLAG + "f is pick f f f;");
        s.noFault(FLAG + "x is pick f 1 2;y is pick f f f;");
        s.fault(6, FLAG + "x is pick f 1 ^f;");
        s.fault(6, FLAG + "x is pick f f ^1;");
        s.fault(6, FLAG + "x is copy 1;x is pick f x ^f;");
    }

    private void copyAsTheName() {
        s.of(3, "of copy as the NAME, if it is told)");
        s.fault(6, FLAG + "f is copy ^1;");
        s.fault(6, FLAG + "x is copy 1;x is copy ^f;");
        s.noFault(FLAG + "x is copy f;y is copy 1;x is copy f;y is copy 2;");
    }

    private void anotherOp() {
        s.of(3, "another OP that makes another TYPE than that of the NAME told");
        for (String op : new String[] {"add", "sub", "mul", "min", "max", "tex"}) {
            s.fault(6, FLAG + "f is ^" + op + " 1 2;");
        }
        for (String op : new String[] {"less", "same", "both", "either", "flip"}) {
            s.fault(6, "x is copy 1;x is ^" + op + " 1 2;");
        }
        s.noFault(FLAG + "f is same 1 2;f is flip f;x is copy 1;x is tex x;");
        // a part's own NAME is told no more behind it
        s.noFault(FLAG + "when f;x is copy 1;end;x is less 1 2;");
    }

    private void allStays() {
        s.of(3, "0, or its FAULT (all stays then)");
        String[] wrong = {"?", "lane q 3 4;show z;", "fetch 1;alu 1;lane q 0 1;times 2;", "times 9;show 1;end;",
            "lane q 1 2;b is copy q;times 9;times 9;b is add b q;end;end;", "f is less 1 2;when f;end;when f;end;?"};
        for (String text : wrong) {
            ShaderReady x = standing();
            s.holds("a fault of " + text, Due.shader(x, text) != 0);
            s.due("all stays behind " + text, Answers.of(x), Answers.of(standing()));
            ShaderReady next = standing();
            s.holds("a fault of " + text, Due.shader(next, text) != 0);
            s.holds("and another", Due.shader(next, text) != 0);
            s.due("two times " + text, Answers.of(next), Answers.of(standing()));
        }
    }

    private static ShaderReady standing() {
        ShaderReady x = Due.of("fetch 2;alu 3;lane a 1 9;b is add a 7;f is less a 5;when f;b is tex b;end;show b;show a;");
        x.set(0, 1, 4);
        x.narrow(0, 1, 6);
        x.cell(3, 33);
        x.rule(2);
        return x;
    }

    private void nothingWrong() {
        s.of(3, "The TAPE is read as a SHADER: 0, or its FAULT");
        s.due("no sign", new ShaderReady().shader(), 0);
        s.noFault(" \n");
        s.noFault("show 1;");
        ShaderReady x = Due.of("show 1;");
        s.due("no sign behind another", x.shader(), 0);
        s.due("is a SHADER of nothing", x.count(2), 0);
        // a fault in the midst of parts and loops leaves nothing for the next reading
        String[] midst = {"times 2;times 2;?", FLAG + "when f;when f;?", "fetch 1;alu 1;?", TextEdges.names(20) + "?", SIX + "?",
            "times 9;times 9;show 1;end;end;", FLAG + "when f;?"};
        for (String text : midst) {
            ShaderReady next = new ShaderReady();
            s.holds("a fault of " + text, Due.shader(next, text) != 0);
            String then = SIX + "fetch 2;alu 2;x is copy b;show 1;" + FOUR + "x is add x a;end;end;end;end;show x;";
            s.due("behind " + text, Due.shader(next, then), 0);
            s.due("as if it were the first, behind " + text, Answers.of(next), Answers.of(Due.of(then)));
        }
    }
}
