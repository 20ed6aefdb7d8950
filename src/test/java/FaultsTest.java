/** Faults: each text has a ^ ahead of the token that is wrong (none: no fault), and its kind. */
public final class FaultsTest {
    private static final Due DUE = new Due();
    private static final String FLAG = "f is less 1 2;";
    private static final String TWENTY = names(20);

    public static void main(String[] args) {
        stand();
        notTold();
        toldAlready();
        numbers();
        tooMany();
        types();
        worked();
        none();
        DUE.end();
    }

    private static void fault(int kind, String marked) {
        int place = marked.indexOf('^');
        String text = place < 0 ? marked : marked.substring(0, place) + marked.substring(place + 1);
        DUE.due(marked, Due.shader(new ShaderReady(), text), place < 0 ? 0 : kind + 16 * place);
        DUE.due("oracle: " + marked, new Oracle().read(text), place < 0 ? 0 : kind + 16 * place);
    }

    private static String names(int count) {
        StringBuilder text = new StringBuilder();
        for (int i = 0; i < count; i++) {
            text.append("n").append((char) ('a' + i)).append(" is copy 1;");
        }
        return text.toString();
    }

    private static void stand() {
        String[] first = {"^;", "^5;", "^is;", "^add 1 2;", "^copy 1;", "^A is copy 1;", "^x1", "^else;", "^end;", "^?", "^-1",
            "^abcdefgh is copy 1;", "^1000", "^given", "^_"};
        for (String text : first) {
            if (text.equals("^x1")) {
                fault(1, "x^1");
            } else if (text.equals("^given")) {
                fault(1, "given^");
            } else {
                fault(1, text);
                fault(1, "x is copy 1; \n" + text);
            }
        }
        String[] within = {"x ^copy", "x^", "x is ^;", "x is ^y", "x is ^show", "x is ^is", "x is ^3", "x is add^", "x is add ^;",
            "x is add 1 ^;", "x is add 1 2 ^3;", "x is add 1 2^", "x is tex 1 ^2;", "x is copy 1 ^x", "x is add ^is 1;",
            "x is add 1 ^add;", "x is add 1 ^2000;", "x is add ^abcdefgh 1;", "given ^5", "given ^lane", "given a ^b",
            "given a 1 ^;", "given a 1 2^", "given a 1 2 ^3", "given a 1 ^1000;", "lane ^add 1 2;", "lane a ^-1 2;", "fetch ^;",
            "fetch ^x;", "fetch 3 ^4;", "fetch 3^", "alu ^;", "alu 3 ^x;", "times ^x;", "times 2 ^2;", "times 2^", "times 2;^",
            "times 2;  \n^", "times 2;end^", "times 2;end ^5;", "times 2;^else;", "times 2;end;^end;", "show ^;", "show 1^",
            "show 1 ^2;", "show ^end;", "x is pick ^;", "x is copy 1 ; ^, y is copy 1;"};
        for (String text : within) {
            fault(1, text);
        }
        String[] behindFlag = {"when ^;", "when f^", "when f ^f;", "when f;^", "when f;else;^", "when f;else^", "when f;else ^1;",
            "when f;else;^else;", "when f;^show 1;", "when f;else;^show 1;", "when f;times 2;^show 1;", "when f;^given a 1 2;",
            "when f;^lane a 1 2;", "when f;^fetch 1;", "when f;^alu 1;", "when f;times 2;^else;", "when f;end;^else;",
            "when f;end;^end;", "when ^flip;", "times 2;^given a 1 2;", "times 2;^lane a 1 2;", "times 2;^fetch 1;",
            "times 2;^alu 1;", "fetch 1;times 2;^fetch 1;", "times 2;when f;else;end;^else;", "x is pick f ^;",
            "x is pick f 1 ^;", "x is pick f 1 2 ^3;"};
        for (String text : behindFlag) {
            fault(1, FLAG + text);
        }
    }

    private static void notTold() {
        String[] texts = {"show ^x;", "x is add ^x 1;", "x is copy ^x;", "x is add 1 ^y;", "when ^f;", "x is pick ^f 1 2;",
            FLAG + "x is pick f ^y 2;", FLAG + "x is pick f 1 ^y;", FLAG + "when f;y is copy 1;end;show ^y;",
            FLAG + "when f;y is copy 1;else;z is copy ^y;", FLAG + "when f;else;y is copy 1;end;show ^y;",
            FLAG + "when f;times 2;y is copy 1;end;end;show ^y;", "times 2;x is copy ^y;y is copy 1;end;", "show ^given1;"};
        for (String text : texts) {
            fault(text.endsWith("given1;") ? 1 : 2, text);
        }
        fault(0, "times 2;y is copy 1;end;show y;");
        fault(0, FLAG + "y is copy 1;when f;y is copy 2;end;show y;");
        fault(0, FLAG + "when f;y is copy 1;when f;y is add y 1;end;z is copy y;end;");
    }

    private static void toldAlready() {
        String[] texts = {"given a 1 2;given ^a 1 2;", "given a 1 2;lane ^a 3 2;", "a is copy 1;lane ^a 1 2;", "lane a 1 2;^a",
            "lane a 1 2;^a is add 1 1;", "lane a 1 2;times 2;^a is copy 1;", "fetch 1;^fetch", "alu 1;fetch 1;^alu 99",
            "fetch 1;alu 1;^fetch 1;"};
        for (String text : texts) {
            fault(3, text);
        }
        fault(0, FLAG + "when f;a is copy 1;end;lane a 1 2;show a;");
        fault(3, FLAG + "given a 1 2;when f;^a is copy 1;");
    }

    private static void numbers() {
        String[] texts = {"given a 5 ^4;", "lane a 999 ^998;", "fetch ^0;", "fetch ^9;", "alu ^0;", "alu ^17;", "times ^1;",
            "times ^0;", "times ^10;", "times ^999;"};
        for (String text : texts) {
            fault(4, text);
        }
        fault(0, "given a 4 4;lane b 0 999;fetch 8;alu 16;times 9;end;times 2;end;");
        fault(0, "fetch 1;alu 1;given a 000 000;");
    }

    private static void tooMany() {
        String six = "given a 0 1;lane b 0 1;given c 0 1;lane d 0 1;given e 0 1;lane g 0 1;";
        fault(0, six);
        fault(5, six + "^given");
        fault(5, six + "^lane a 0 1;");
        fault(1, six + "times 2;^lane q 0 1;");
        fault(0, TWENTY + "na is copy 2;");
        fault(5, TWENTY + "^z");
        fault(5, TWENTY + "lane ^z 0 1;");
        fault(3, TWENTY + "lane ^na 0 1;");
        fault(5, "f is less 1 2;" + names(19) + "when f;^z is copy 1;");
        fault(0, "f is less 1 2;" + names(18) + "when f;z is copy 1;else;y is copy 1;end;x is copy 1;");
        fault(5, "f is less 1 2;" + names(18) + "when f;z is copy 1;^y is copy 1;end;");
        fault(5, FLAG + "times 2;when f;times 2;when f;^when");
        fault(5, FLAG + "times 2;when f;times 2;when f;^times");
        fault(0, FLAG + "times 2;when f;times 2;when f;end;when f;end;end;end;end;");
    }

    private static void types() {
        String[] texts = {"x is ^add 1 2;", "x is ^tex 1;", "x is add x 1"};
        fault(6, "x is less 1 2;" + texts[0]);
        fault(6, "x is less 1 2;" + texts[1]);
        fault(6, "x is add 1 2;x is ^less 1 2;");
        fault(6, "x is add 1 2;x is ^flip 1;");
        fault(6, "lane a 0 1;x is both ^a a;");
        String[] behindFlag = {"x is add ^f 1;", "x is add 1 ^f;", "x is tex ^f;", "x is less ^f f;", "x is same 1 ^f;",
            "x is both ^1 f;", "x is either f ^1;", "x is flip ^7;", "x is pick ^1 1 1;", "x is pick f f ^1;", "x is pick f 1 ^f;",
            "f is pick f ^1 2;", "f is pick f f ^2;", "n is copy 1;n is pick f ^f f;", "n is copy 1;n is copy ^f;",
            "f is copy ^1;", "show ^f;", "when ^1;", "n is copy 1;when ^n;", "x is min 1 ^f;", "x is pick f 1 2;x is copy ^f;",
            "x is pick f f f;show ^x;", "x is copy f;show ^x;", "when f;x is copy f;else;x is copy 1;when ^x;"};
        for (String text : behindFlag) {
            fault(6, FLAG + text);
        }
        fault(0, FLAG + "x is pick f f f;y is flip x;z is pick f 1 2;show z;f is pick x y f;");
        fault(0, FLAG + "when f;x is copy f;else;x is copy 1;end;x is copy f;");
    }

    private static void worked() {
        String lines199 = "times 9;times 7;x is copy 1;y is copy 1;z is copy 1;end;end;";
        fault(0, lines199 + "show 1;");
        fault(5, lines199 + "show 1;^show 1;");
        fault(5, lines199 + "show 1;^times 2;end;");
        fault(5, lines199 + "f is less 1 1;^when f;end;");
        fault(5, lines199 + "f is less 1 1;^q is copy 1;");
        fault(0, lines199 + "f is less 1 1;given a 0 1;fetch 2;");
        fault(5, lines199 + "times 2;^x is copy 1;end;");
        fault(0, lines199 + "times 2;end;");
        fault(5, "times 9;times 9;times 9;^times 9;end;end;end;end;");
        fault(0, "times 8;show 1;end;");
        fault(5, "times 8;show 1;end;^show 1;");
        fault(5, "times 3;times 3;^show 1;end;end;");
        // 64 VALUES: a, and 63 sums
        String full = "lane a 0 9;b is copy a;times 9;times 7;b is add b a;end;end;";
        fault(0, full + "show b;c is add b a;".replace("add b a", "copy b"));
        fault(5, full + "show ^1;");
        fault(5, full + "c is copy ^1;");
        fault(5, full + "c is add ^1 2;");
        fault(5, full + "c is ^tex b;");
        fault(5, full + "c is ^add b b;");
        fault(5, full + "times 8;show b;end;^show 3;");
        // 64 VALUES: a, f, and 62 sums
        String flag = "lane a 0 9;f is less a a;b is copy a;times 9;times 6;b is add b a;end;end;times 8;b is add b a;end;";
        fault(5, flag + "when f;b is copy a;^end;");
        fault(5, flag + "when f;else;b is copy a;^end;");
        fault(0, flag + "when f;b is copy b;end;");
        fault(0, flag + "when f;b is copy a;else;b is copy a;end;show b;");
        fault(0, flag + "c is pick f b b;");
        fault(5, flag + "c is ^pick f a b;");
        // single form: what is there already is none more
        fault(0, flag + "c is less a a;c is pick f f f;");
        // the text's own faults go first, wherever they are
        fault(2, full + "show 1;show ^zz;");
    }

    private static void none() {
        String[] texts = {"", " ", "\n\n", "show 5;", "show5;", "lane a0 9;show a;", "times2;end;", "x is copy 1;x is add x 1;show x;",
            "given a 0 9;f is less a 5;when f;end;", "abcdefg is copy 1;", "shown is copy 1;giv is copy 2;",
            "x\nis\ncopy\n1\n;", "times 2;show 1;times 2;show 2;end;end;"};
        for (String text : texts) {
            fault(0, text);
        }
    }
}
