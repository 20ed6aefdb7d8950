/** How LINES are WORKED and where that is too much: promises 3, 9, 13, 29. */
final class WorkEdges {
    private static final int NONE = -1;
    /** 1 + 9 * (1 + 7 * 3) LINES, one VALUE. */
    private static final String LINES199 = "times 9;times 7;x is copy 1;y is copy 1;z is copy 1;end;end;";
    /** 64 VALUES: a, and 63 sums. */
    private static final String FULL = "lane a 0 9;b is copy a;times 9;times 7;b is add b a;end;end;";
    /** 64 VALUES: a, f, and 62 sums. */
    private static final String FULL_WITH_FLAG = "lane a 0 9;f is less a a;b is copy a;times 9;times 6;b is add b a;end;end;"
        + "times 8;b is add b a;end;";

    private final Sentences s;

    WorkEdges(Sentences s) {
        this.s = s;
    }

    void ask() {
        s.each(this::ifThereIsNone, this::asOftenAsItTells, this::bothPartsFromTheSameBegin, this::inputsFirst,
            this::asTheyCome, this::sameArgs, this::eitherOrder, this::cameFirst, this::oneValue, this::endOfAWhen,
            this::unlikeValues, this::aheadOfItInTheText, this::shownAsWorked, this::twoHundredLines, this::eightShown,
            this::sixtyFourValues, this::firstAsWorked, this::firstOfALine, this::ofShownShow, this::ofValues,
            this::theShaderFromThenOn, this::nothingOfThoseBefore, this::tableAndRuleStay, this::partsAnyTime, this::partsNoneSuch);
    }

    private void ifThereIsNone() {
        s.of(3, "If there is none, the LINES are WORKED");
        s.fault(2, "times 9;show 1;end;show ^z;");
        s.fault(1, FULL + "show 1;^?");
        s.fault(1, LINES199 + "show 1;show 1;times 2;^");
        s.fault(5, "times 9;^show 1;end;");
    }

    private void asOftenAsItTells() {
        s.of(13, "those of a times as often as it tells, one behind another");
        for (int times = 2; times <= 8; times++) {
            ShaderReady x = Due.of("b is copy 0;times " + times + ";b is add b 1;show b;end;");
            s.due("shown " + times, x.count(2), times);
            s.due("the last", x.walked(0, times - 1), times);
            s.due("no more", x.shown(times), NONE);
        }
        ShaderReady nine = Due.of("b is copy 0;times 9;b is add b 1;end;show b;");
        s.due("nine", nine.walked(0, 0), 9);
        s.due("nine by VALUES", nine.is(nine.shown(0), 0), 9);
        ShaderReady within = Due.of("b is copy 0;times 2;times 3;b is add b 1;end;b is add b 10;end;show b;");
        s.due("2 * 3 and 2", within.is(within.shown(0), 0), 26);
    }

    private void bothPartsFromTheSameBegin() {
        s.of(9, "of a when both parts, each from the same begin");
        ShaderReady x = Due.of("lane a 0 9;f is less a 5;b is copy a;when f;b is add b 1;else;b is add b 2;end;show b;");
        int b = x.shown(0);
        s.due("pick", x.value(b, 0), 13);
        s.due("the first part begins with a", x.value(x.value(b, 2), 1), 0);
        s.due("the second, too", x.value(x.value(b, 3), 1), 0);
        // the first part tells f again: the second one has that of the begin
        ShaderReady flag = Due.of("lane a 0 9;f is less a 5;b is copy 0;when f;f is flip f;else;b is pick f 1 2;end;show b;");
        s.due("f of the begin", flag.value(flag.value(flag.shown(0), 3), 1), 2);
    }

    private void inputsFirst() {
        s.of(9, "the INPUTS first, as they are told (wherever that is)");
        ShaderReady x = Due.of("c is copy 7;d is add c 8;lane a 1 2;show d;given b 3 4;show b;show c;");
        s.due("a", x.value(0, 0) * 10 + x.value(0, 1), 0);
        s.due("b", x.value(1, 0) * 10 + x.value(1, 1), 1);
        s.due("7", x.value(2, 1), 7);
        s.due("8", x.value(3, 1), 8);
        s.due("d", x.shown(0), 4);
        s.due("b is shown", x.shown(1), 1);
        s.due("c is shown", x.shown(2), 2);
        s.due("five", x.count(0), 5);
    }

    private void asTheyCome() {
        s.of(9, "then, as they come: a NUMBER (ARGS from the left), what an OP makes");
        ShaderReady x = Due.of("f is less 5 3;x is pick f 9 4;show x;show 2;");
        int[] numbers = {5, 3, 9, 4};
        int[] values = {0, 1, 3, 4};
        for (int i = 0; i < 4; i++) {
            s.due("NUMBER " + numbers[i], x.value(values[i], 1), numbers[i]);
        }
        s.due("less", x.value(2, 0), 8);
        s.due("pick", x.value(5, 0), 13);
        s.due("2", x.value(6, 1), 2);
        s.due("no other NUMBERS are VALUES", Due.of("fetch 3;alu 5;lane a 6 7;times 2;end;").count(0), 1);
    }

    private void sameArgs() {
        s.of(9, "of one NUMBER, of one OP with the same ARGS in the same order");
        s.due("one NUMBER", Due.of("show 5;show 5;x is add 5 5;show 005;").count(0), 2);
        String two = "lane a 0 9;lane b 0 9;f is less a b;";
        for (String op : new String[] {"sub", "less"}) {
            s.due(op + " again", Due.of(two + "x is " + op + " a b;y is " + op + " a b;").count(0), op.equals("less") ? 3 : 4);
            s.due(op + " turned", Due.of(two + "x is " + op + " a b;y is " + op + " b a;").count(0), op.equals("less") ? 4 : 5);
        }
        s.due("tex again", Due.of(two + "x is tex a;y is tex a;").count(0), 4);
        s.due("flip again", Due.of(two + "x is flip f;y is flip f;").count(0), 4);
        s.due("pick again", Due.of(two + "x is pick f a b;y is pick f a b;").count(0), 4);
        s.due("pick turned", Due.of(two + "x is pick f a b;y is pick f b a;").count(0), 5);
        s.due("another OP", Due.of(two + "x is add a b;y is mul a b;").count(0), 5);
        s.due("a NUMBER is no INPUT of that number", Due.of("lane a 0 9;show 0;").count(0), 2);
    }

    private void eitherOrder() {
        s.of(9, "(of add, mul, min, max, same, both, either in either order: the lower VALUE is the first one)");
        for (String op : new String[] {"add", "mul", "min", "max", "same"}) {
            ShaderReady x = Due.of("lane a 0 9;lane b 0 9;x is " + op + " b a;y is " + op + " a b;");
            s.due(op + ": one", x.count(0), 3);
            s.due(op + ": lower", x.value(2, 1), 0);
            s.due(op + ": higher", x.value(2, 2), 1);
        }
        for (String op : new String[] {"both", "either"}) {
            ShaderReady x = Due.of("lane a 0 9;f is less a 1;g is less a 2;x is " + op + " g f;y is " + op + " f g;");
            s.due(op + ": one", x.count(0), 6);
            s.due(op + ": lower", x.value(5, 1), 2);
            s.due(op + ": higher", x.value(5, 2), 4);
        }
    }

    private void cameFirst() {
        s.of(9, "there is one VALUE, that which came first");
        ShaderReady x = Due.of("lane a 0 9;b is add a 1;c is add a 2;d is add 1 a;e is add a 1;show d;show e;show b;");
        for (int i = 0; i < 3; i++) {
            s.due("shown " + i, x.shown(i), 2);
        }
        ShaderReady part = Due.of("lane a 0 9;f is less a 5;when f;b is add a 1;end;c is add a 1;show c;");
        s.due("that of a part, too", part.shown(0), 4);
        s.due("once", part.count(0), 5);
    }

    private void oneValue() {
        s.of(9, "pick of two of which both are one VALUE is that VALUE, copy its ARG.");
        ShaderReady x = Due.of("lane a 0 9;f is less a 5;b is add a 1;c is add 1 a;d is pick f b c;e is copy d;g is pick f f f;"
            + "h is copy g;show d;show e;k is pick h a b;show k;");
        s.due("pick", x.shown(0), 4);
        s.due("copy", x.shown(1), 4);
        s.due("pick of FLAGS", x.value(x.shown(2), 1), 2);
        s.due("no more VALUES", x.count(0), 6);
        s.noFault(FULL_WITH_FLAG + "c is pick f b b;d is copy f;e is copy c;");
    }

    private void endOfAWhen() {
        s.of(9, "is pick of the when's ARG, the first part's, the second part's");
        ShaderReady x = Due.of("lane a 0 9;f is less a 5;b is copy a;when f;b is copy 1;f is flip f;else;b is copy 2;end;show b;");
        int b = x.shown(0);
        s.due("pick", x.value(b, 0), 13);
        s.due("of the when's ARG as it was", x.value(b, 1), 2);
        s.due("the first part's", x.value(x.value(b, 2), 1), 1);
        s.due("the second part's", x.value(x.value(b, 3), 1), 2);
        ShaderReady first = Due.of("b is copy 1;lane a 0 9;f is less a 5;when f;b is copy 2;end;show b;");
        s.due("of the NAME told first of all, too", first.value(first.shown(0), 0), 13);
        ShaderReady none = Due.of("lane a 0 9;f is less a 5;b is copy a;when f;else;b is copy 2;end;show b;");
        s.due("a part that tells nothing", none.value(none.shown(0), 2), 0);
    }

    private void unlikeValues() {
        s.of(9, "in the order in which they were told, of which the parts have unlike VALUES");
        String text = "lane a 0 9;f is less a 5;c is copy a;b is copy a;";
        ShaderReady x = Due.of(text + "when f;b is copy 1;c is copy 2;else;end;show b;show c;");
        s.due("c was told first", x.shown(1), 5);
        s.due("then b", x.shown(0), 6);
        s.due("no VALUE of an empty when", Due.of(text + "when f;end;when f;else;end;").count(0), 3);
        s.due("nor of like ones", Due.of(text + "when f;b is add a 5;else;b is add 5 a;end;").count(0), 4);
        s.due("nor of what is as ahead", Due.of(text + "when f;b is copy c;end;").count(0), 3);
        // told again ahead of the when, c is still the first one told
        ShaderReady again = Due.of(text + "c is copy 9;when f;b is copy 1;c is copy 2;end;show b;show c;");
        s.holds("c ahead of b", again.shown(1) + 1 == again.shown(0));
    }

    private void aheadOfItInTheText() {
        s.of(9, "each NAME that was told ahead of it in the text");
        // y is told behind the when, though worked ahead of it the second time
        ShaderReady x = Due.of("lane a 0 9;f is less a 5;times 2;when f;end;y is add a 1;end;show y;");
        s.due("no pick", x.value(x.shown(0), 0), 2);
        ShaderReady part = Due.of("lane a 0 9;f is less a 5;times 2;when f;y is copy 3;end;y is add a 1;end;show y;");
        s.due("the part's y is another one", part.value(part.shown(0), 0), 2);
        s.due("and makes no pick", part.count(0), 6);
        ShaderReady first = Due.of("lane a 0 9;f is less a 5;when f;y is copy 3;else;y is copy 4;end;");
        s.due("first told in both parts: no pick", first.count(0), 5);
    }

    private void shownAsWorked() {
        s.of(13, "SHOWN: the VALUES of show, as they are WORKED.");
        ShaderReady x = Due.of("lane a 0 9;times 2;show a;show 3;end;show a;");
        int[] want = {0, 1, 0, 1, 0, NONE};
        for (int i = 0; i < want.length; i++) {
            s.due("shown(" + i + ")", x.shown(i), want[i]);
        }
        s.due("count(2)", x.count(2), 5);
    }

    private void twoHundredLines() {
        s.of(3, "200 LINES that are WORKED (is, when, times, show)");
        s.noFault(LINES199 + "show 1;");
        s.noFault(LINES199 + "times 2;end;");
        s.noFault(LINES199 + "f is less 1 2;");
        s.fault(5, LINES199 + "show 1;^show 1;");
        s.fault(5, LINES199 + "show 1;^times 2;end;");
        s.fault(5, LINES199 + "show 1;^x is copy 1;");
        s.fault(5, LINES199 + "f is less 1 2;^when f;end;");
        s.noFault(LINES199 + "lane a 0 1;given b 0 1;fetch 2;alu 2;show 1;");
        // both parts of a when are WORKED, else and end are none: 1 + 1 + 9 * (1 + 7 * 3)
        String parts = "f is less 1 2;times 9;times 7;when f;x is copy 1;else;x is copy 1;end;end;end;";
        s.noFault(parts);
        s.fault(5, parts + "^show 1;");
        s.fault(5, "times 9;times 9;times 9;^times 9;end;end;end;end;");
        ShaderReady again = Due.of(LINES199 + "show 1;");
        s.due("200 of each text", Due.shader(again, LINES199 + "show 1;"), 0);
    }

    private void eightShown() {
        s.of(3, "8 SHOWN, 64 VALUES at most");
        s.noFault("times 8;show 1;end;");
        s.due("eight", Due.of("times 8;show 1;end;").count(2), 8);
        s.fault(5, "times 8;show 1;end;^show 1;");
        s.fault(5, "show 1;show 2;show 3;show 4;show 5;show 6;show 7;show 8;^show 9;");
        s.fault(5, "times 9;^show 1;end;");
    }

    private void sixtyFourValues() {
        s.of(3, "64 VALUES at most: else FAULT 5");
        ShaderReady x = Due.of(FULL + "show b;");
        s.due("64", x.count(0), 64);
        s.due("the last is shown", x.shown(0), 63);
        // full, and the first and the last are SHOWN, or the first alone
        ShaderReady ends = Due.of(FULL + "show a;show b;");
        s.due("all are NEEDED", ends.all(0), -1L);
        s.due("kept", ends.place(0, 1), 64);
        s.due("walked", ends.walked(0, 1), ends.ran(0, 1));
        ShaderReady first = Due.of(FULL + "show a;");
        s.due("the first alone is NEEDED", first.all(0), 1);
        s.due("best of it", first.best(), 1);
        s.fault(5, FULL + "show ^1;");
        s.fault(5, FULL + "c is ^tex b;");
        s.noFault(FULL + "c is copy b;c is add a a;times 8;show c;end;");
        s.fault(5, "lane c 0 1;lane a 0 9;b is copy a;times 9;times 7;b is ^add b a;end;end;");
    }

    private void firstAsWorked() {
        s.of(3, "of the first token, as it is WORKED, by which there would be more");
        // show would be one too many the ninth time, the NUMBER behind it is so the first time
        s.fault(5, FULL + "times 9;show b;c is add b ^1;end;");
        s.fault(5, FULL + "times 8;show b;end;times 2;^show 1;end;");
        s.fault(5, "lane a 0 9;b is copy a;times 9;show b;times 9;b is ^add b a;end;end;");
        s.fault(5, LINES199 + "show 1;^times 9;show 1;end;");
    }

    private void firstOfALine() {
        s.of(3, "of a LINE its first one");
        s.fault(5, LINES199 + "show 1;^x is add 5 6;");
        s.fault(5, LINES199 + "f is less 1 2;^when f;end;");
        s.fault(5, LINES199 + "times 2;^show 1;end;");
        s.fault(5, LINES199 + "show 1;  ^times 2;end;");
    }

    private void ofShownShow() {
        s.of(3, "of SHOWN show");
        s.fault(5, "times 8;show 1;end; ^show 1;");
        s.fault(5, FULL + "times 8;show b;end;^show 1;");
    }

    private void ofValues() {
        s.of(3, "of VALUES the NUMBER, the OP, the end of the when.");
        s.fault(5, FULL + "c is add ^1 2;");
        s.fault(5, FULL + "c is add b ^2;");
        s.fault(5, FULL + "c is copy ^2;");
        s.fault(5, FULL + "show ^2;");
        s.fault(5, FULL + "c is ^add b b;");
        s.fault(5, FULL_WITH_FLAG + "c is ^pick f a b;");
        s.fault(5, FULL_WITH_FLAG + "c is ^flip f;");
        s.fault(5, FULL_WITH_FLAG + "when f;b is copy a;^end;");
        s.fault(5, FULL_WITH_FLAG + "when f;b is copy a;else;^end;");
        s.fault(5, FULL_WITH_FLAG + "when f;else;b is copy a;  ^end ;");
        s.fault(5, FULL_WITH_FLAG + "when f;when f;b is copy a;^end;end;");
        s.noFault(FULL_WITH_FLAG + "when f;c is copy a;b is copy b;end;");
    }

    private void theShaderFromThenOn() {
        s.of(3, "each INPUT has its low in all LANES, its RANGE is as told");
        ShaderReady x = Due.of("lane a 3 9;given b 5 5;show a;");
        x.set(0, 2, 8);
        x.narrow(0, 2, 8);
        s.due("the same text again", Due.shader(x, "lane a 3 9;given b 5 5;show a;"), 0);
        for (int lane = 0; lane < 4; lane++) {
            s.due("low in LANE " + lane, x.input(0, 4 + lane), 3);
            s.due("low of given in LANE " + lane, x.input(1, 4 + lane), 5);
        }
        s.due("RANGE as told, low", x.input(0, 1), 3);
        s.due("RANGE as told, high", x.input(0, 2), 9);
        s.due("fewer", Due.shader(x, "given c 1 2;"), 0);
        s.due("one INPUT", x.count(1), 1);
        s.due("no second one", x.input(1, 0), NONE);
        s.due("nothing SHOWN", x.count(2), 0);
    }

    private void nothingOfThoseBefore() {
        s.of(3, "Without a FAULT a SHADER is the SHADER from then on");
        String[] texts = {"show 3;", "fetch 2;alu 3;given g 0 9;lane a 1 900;f is less g 5;b is add a g;when f;b is tex b;end;show b;show a;",
            "lane a 0 9;f is less a 5;b is copy 3;times 2;when f;b is mul b a;else;b is add b a;end;end;show b;",
            LINES199 + "show 1;", "", "given g 0 9;h is add g 600;show h;show g;", "f is less 1 2;when f;end;when f;end;"};
        for (String first : texts) {
            for (String second : texts) {
                behind(second, first);
                behind(second, first, first);
                behind(second, first, second);
                behind(second, first, second, first);
            }
        }
    }

    private void behind(String text, String... before) {
        ShaderReady x = new ShaderReady();
        for (String earlier : before) {
            s.due("earlier " + earlier, Due.shader(x, earlier), 0);
        }
        s.due("shader of " + text, Due.shader(x, text), 0);
        s.due(text + " behind " + String.join(" and ", before), Answers.of(x), Answers.of(Due.of(text)));
    }

    private void tableAndRuleStay() {
        s.of(3, "(the TABLE, the RULE stay)");
        ShaderReady x = Due.of("show 1;");
        x.cell(0, 5);
        x.cell(15, 999);
        x.rule(3);
        s.due("another", Due.shader(x, "lane a 0 9;t is tex a;show t;"), 0);
        s.due("cell 0 is read", x.walked(0, 0), 5);
        s.due("cell 15", x.cell(15, 1), 999);
        s.due("RULE", x.count(9), 3);
        s.due("nothing", x.shader(), 0);
        s.due("cell 0 still", x.cell(0, 1), 5);
        s.due("RULE still", x.rule(0), 3);
    }

    private void partsAnyTime() {
        s.of(29, "1: its ARG was not UNIFORM as it was WORKED any time, else 0");
        String text = "lane a 0 9;given g 0 9;f is less g 5;h is less a 5;";
        s.due("UNIFORM", Due.of(text + "when f;end;").parts(0), 0);
        s.due("not UNIFORM", Due.of(text + "when h;end;").parts(0), 1);
        s.due("the first time alone", Due.of(text + "times 2;when h;end;h is copy f;end;").parts(0), 1);
        s.due("the last time alone", Due.of(text + "times 9;when f;end;f is copy h;end;").parts(0), 1);
        s.due("KNOWN, but not UNIFORM", Due.of("lane a 0 9;f is less a 10;when f;end;").parts(0), 1);
        s.due("of NUMBERS", Due.of("f is less 1 2;when f;end;").parts(0), 0);
        ShaderReady x = Due.of(text + "when h;end;");
        s.due("another text", Due.shader(x, text + "when f;end;"), 0);
        s.due("has its own", x.parts(0), 0);
    }

    private void partsNoneSuch() {
        s.of(29, "Of the k-th when (from 0, as its LINES stand in the text)");
        ShaderReady x = Due.of("lane a 0 9;given g 0 9;f is less g 5;h is less a 5;"
            + "times 3;when f;when h;end;else;when f;end;end;end;when h;end;");
        int[] want = {0, 1, 0, 1, NONE};
        for (int k = 0; k < want.length; k++) {
            s.due("parts(" + k + ")", x.parts(k), want[k]);
        }
        s.of(29, "else 0; NONE: none such.");
        for (int k : new int[] {-1, 4, 64, 200, Integer.MIN_VALUE, Integer.MAX_VALUE}) {
            s.due("parts(" + k + ")", x.parts(k), NONE);
        }
        s.due("no when", Due.of("show 1;").parts(0), NONE);
    }
}
