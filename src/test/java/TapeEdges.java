/** A new object and the TAPE: promises 1 and 2, and how shader takes the TAPE. */
final class TapeEdges {
    private static final int NONE = -1;
    private static final long BLANKS = 0x2020202020202020L;

    private final Sentences s;

    TapeEdges(Sentences s) {
        this.s = s;
    }

    void ask() {
        s.each(this::nothingAtFirst, this::fetchAndAluAtFirst, this::callsOfOneObject, this::bytesHighestFirst,
            this::comeBehind, this::otherSigns, this::atMostAThousand, this::beyondAThousand, this::howManyThereAre,
            this::whatReadsItTakesIt, this::none);
    }

    private static ShaderReady blanks(int count) {
        ShaderReady x = new ShaderReady();
        Due.feed(x, " ".repeat(count));
        return x;
    }

    private void nothingAtFirst() {
        s.of(1, "`ShaderReady()`: Nothing.");
        ShaderReady x = new ShaderReady();
        for (int what = 0; what <= 6; what++) {
            s.due("count(" + what + ")", x.count(what), 0);
            s.due("all(" + what + ")", x.all(what), 0);
        }
        for (int what = 9; what <= 12; what++) {
            s.due("count(" + what + ")", x.count(what), 0);
        }
        s.due("input", x.input(0, 0), NONE);
        s.due("value", x.value(0, 0), -2);
        s.due("shown", x.shown(0), NONE);
        s.due("order", x.order(0), NONE);
        s.due("clause", x.clause(0, 0), NONE);
        s.due("parts", x.parts(0), NONE);
        for (int file = 0; file <= 2; file++) {
            s.due("pressure(" + file + ")", x.pressure(file), 0);
        }
        s.due("used(0)", x.used(0), 0);
        s.due("used(1)", x.used(1), 0);
        s.due("best", x.best(), 0);
    }

    private void fetchAndAluAtFirst() {
        s.of(1, "At first: nothing (fetch 4, alu 8).");
        s.due("fetch", new ShaderReady().count(7), 4);
        s.due("alu", new ShaderReady().count(8), 8);
    }

    private void callsOfOneObject() {
        s.of(1, "An object is used for at most 512 calls after it has been made");
        ShaderReady x = new ShaderReady();
        Due.feed(x, "lane a 0 9;show a;");
        int calls = 2;
        calls++;
        s.due("shader", x.shader(), 0);
        int[] lanes = new int[4];
        while (calls < 511) {
            int lane = calls % 4;
            int number = calls % 10;
            s.due("set in call " + calls, x.set(0, lane, number), lanes[lane]);
            lanes[lane] = number;
            calls++;
        }
        s.due("the 512th", x.walked(2, 0), lanes[2]);
    }

    private void bytesHighestFirst() {
        s.of(2, "the bytes of a, b, c, of each the highest first");
        ShaderReady x = new ShaderReady();
        // "lane abc 12 345;show abc": the longs part it within 12 and within show
        s.due("feed", x.feed(0x6C616E6520616263L, 0x203132203334353BL, 0x73686F7720616263L), 24);
        s.due("the last", x.feed(0x3B00000000000000L, 0, 0), 25);
        s.due("shader", x.shader(), 0);
        s.due("low", x.input(0, 1), 12);
        s.due("high", x.input(0, 2), 345);
        s.due("shown", x.shown(0), 0);
        // the highest byte may be what makes a long less than 0: it is left out, the others come
        s.due("a byte of 255 ahead", x.feed(0xFF73686F7720353BL, 0, 0), 7);
        s.due("is left out", x.shader(), 0);
    }

    private void comeBehind() {
        s.of(2, "Up to 24 signs come behind the TAPE");
        ShaderReady x = new ShaderReady();
        s.due("none", x.feed(0, 0, 0), 0);
        s.due("one", x.feed(0, 0, 's'), 1);
        s.due("behind it", x.feed(0x686F770000000000L, 0x2000000000000000L, 0x38L), 6);
        s.due("behind these", x.feed(0, 0x3BL, 0), 7);
        s.due("they are show 8;", x.shader(), 0);
        s.due("8", x.value(0, 1), 8);
        s.due("24 of 24", x.feed(BLANKS, BLANKS, BLANKS), 24);
    }

    private void otherSigns() {
        s.of(2, "others than 10 and 32 .. 126");
        for (int sign = 0; sign < 256; sign++) {
            boolean taken = sign == 10 || sign >= 32 && sign <= 126;
            for (int shift = 0; shift < 64; shift += 56) {
                ShaderReady x = new ShaderReady();
                s.due("sign " + sign, x.feed(0, (long) sign << shift, 0), taken ? 1 : 0);
            }
        }
        ShaderReady x = new ShaderReady();
        // show 5; with 0, 9, 31, 127, 128, 255 between
        s.due("no gap", x.feed(0x730068096F001F77L, 0x7F20800000FF3500L, 0x3BL), 7);
        s.due("it reads as show 5;", x.shader(), 0);
        s.due("5", x.value(0, 1), 5);
    }

    private void atMostAThousand() {
        s.of(2, "The TAPE has at most 1,000 signs, 10 and 32 .. 126");
        ShaderReady x = blanks(984);
        s.due("984", x.count(11), 984);
        s.due("999", x.feed(BLANKS, BLANKS >>> 8, 0), 999);
        s.due("1,000", x.feed(0, 0, ' '), 1000);
        s.due("no more", x.feed(0, 0, ' '), 1000);
        s.due("no more of many", x.feed(BLANKS, BLANKS, BLANKS), 1000);
        s.due("all of them are read", x.shader(), 0);
        s.due("room again", x.feed(BLANKS, BLANKS, BLANKS), 24);
    }

    private void beyondAThousand() {
        s.of(2, "and what is beyond 1,000, are left out");
        ShaderReady fits = blanks(993);
        s.due("993 and show 5;", Due.feed(fits, "show 5;"), 1000);
        s.due("is read", fits.shader(), 0);
        s.due("shown", fits.count(2), 1);
        ShaderReady cut = blanks(994);
        s.due("994 and show 5;", Due.feed(cut, "show 5;"), 1000);
        s.due("without its ;", cut.shader(), 1 + 16 * 1000);
        // a tape that is full to its last sign, whatever that is
        String[] last = {"x", "show", "5", "show 5", ";", "?", "abcdefgh", "1234"};
        int[] faults = {1 + 16 * 1000, 1 + 16 * 1000, 1 + 16 * 999, 1 + 16 * 1000, 1 + 16 * 999, 1 + 16 * 999, 1 + 16 * 992, 1 + 16 * 996};
        for (int i = 0; i < last.length; i++) {
            ShaderReady full = blanks(1000 - last[i].length());
            s.due("full with " + last[i], Due.feed(full, last[i]), 1000);
            s.due("read with " + last[i], full.shader(), faults[i]);
        }
        ShaderReady half = blanks(984);
        // of 24 the first 16 come: two lines of three
        s.due("984 and 24", Due.feed(half, "show 1; show 2; show 3; "), 1000);
        s.due("is read", half.shader(), 0);
        s.due("two are shown", half.count(2), 2);
        ShaderReady left = blanks(999);
        // what is left out by its number takes no room
        s.due("999 and one", left.feed(0x0001020304050607L, 0x08090B0C0D0E0F7FL, 0x80FF1F3B00000000L), 1000);
        s.due("it is the last", left.shader(), 1 + 16 * 999);
    }

    private void howManyThereAre() {
        s.of(2, "are left out: how many there are.");
        ShaderReady x = new ShaderReady();
        s.due("none", x.feed(0, 0, 0), 0);
        s.due("three of five", x.feed(0x0A207E7F1F000000L, 0, 0), 3);
        s.due("as before", x.feed(-1, -1, -1), 3);
        s.due("count(11)", x.count(11), 3);
    }

    private void whatReadsItTakesIt() {
        s.of(3, "what reads it takes it: it is empty then");
        ShaderReady x = new ShaderReady();
        Due.feed(x, "show 5;");
        s.due("shader", x.shader(), 0);
        s.due("empty", x.count(11), 0);
        Due.feed(x, "show ?;");
        s.due("a fault", x.shader(), 1 + 16 * 5);
        s.due("empty then, too", x.count(11), 0);
        s.due("the next one begins anew", Due.feed(x, "show 6;"), 7);
        s.due("shader", x.shader(), 0);
        Due.feed(x, "times 9;show 1;end;");
        s.due("a fault as it is worked", x.shader(), 5 + 16 * 8);
        s.due("empty behind that, too", x.count(11), 0);
        s.due("nothing is a shader", x.shader(), 0);
        // nothing of a longer tape stands behind a shorter one: a word, a number, a ;
        String[] longer = {"show abcdefg;", "show 12345678;", "show ;;;;;;;;", "show        ;"};
        for (String text : longer) {
            for (String cut : new String[] {"show", "show ", "show 1", "show x", "sho", "show 1;", "s"}) {
                ShaderReady y = new ShaderReady();
                Due.shader(y, text);
                s.due(cut + " behind " + text, Due.shader(y, cut), Due.shader(new ShaderReady(), cut));
            }
        }
        s.due("of nothing", x.count(0), 0);
    }

    private void none() {
        s.of(1, "`NONE = -1`: None.");
        s.due("NONE", ShaderReady.NONE, -1);
        s.due("of a new object", new ShaderReady().shown(0), ShaderReady.NONE);
    }
}
