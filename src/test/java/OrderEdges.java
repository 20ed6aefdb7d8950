/** What is NEEDED, its ORDER, PRESSURE, REGISTERS, CLAUSES, CYCLES: promises 17 to 23, 28 and what they go by. */
final class OrderEdges {
    private static final int NONE = -1;
    private static final int[] FAR = {-1, -2, 64, 65, 128, 1 << 20, Integer.MIN_VALUE, Integer.MAX_VALUE};
    /** VALUES: u 0, x 1, y 2, s 3, t 4, m 5; by RULE 0 the ORDER is 0 1 3 4 2 5. */
    private static final String PLAIN = "given u 2 5;lane x 0 20;lane y 0 999;s is add x u;t is tex s;m is mul x y;show m;show t;";

    private final Sentences s;

    OrderEdges(Sentences s) {
        this.s = s;
    }

    void ask() {
        s.each(this::sources, this::needed, this::users, this::height, this::eachBehindItsSources, this::ruleZero,
            this::ruleZeroHeights, this::ruleOne, this::ruleTwo, this::ruleThree, this::ends, this::atAPlace,
            this::theMostOfAll, this::leaveFirst, this::lowestFree, this::lowestEven, this::usedEver, this::files,
            this::fetchLimit, this::sourceInTheSameRow, this::aluLimit, this::asLongAsCanBe, this::cyclesOfAFetch,
            this::cyclesOfAnAlu, this::least, this::moreThanTwelve, this::kinOthers, this::orderNoneSuch,
            this::placeInAnyOrder, this::placeOthers, this::pressureOthers, this::atOthers, this::usedOthers,
            this::clauseOthers, this::nextIs, this::placesFromZero, this::lives, this::halvesFromZero, this::kinWhats,
            this::placeWhats, this::clauseWhats);
    }

    private void ordered(String text, int rule, int... want) {
        ShaderReady x = Due.of(text);
        x.rule(rule);
        for (int p = 0; p < want.length; p++) {
            s.due("RULE " + rule + " order(" + p + ") of " + text, x.order(p), want[p]);
        }
        s.due("order behind the last of " + text, x.order(want.length), NONE);
    }

    private void sources() {
        s.of(17, "SOURCES of a VALUE: what its ARGS STAND FOR, but no KNOWN ones.");
        ShaderReady x = Due.of("lane a 0 9;lane b 3 3;f is less a 50;p is pick f a 7;q is add p b;r is mul p p;t is tex 3;show q;show r;show t;");
        // a 0, b 1, 50 2, f 3, 7 4, p 5 for 0, q 6, r 7, 3 8, t 9
        s.due("q: a alone", x.kin(6, 0), 0b1);
        s.due("r: a once", x.kin(7, 0), 0b1);
        s.due("t: none", x.kin(9, 0), 0);
        s.due("a: none", x.kin(0, 0), 0);
    }

    private void needed() {
        s.of(16, "NEEDED: what SHOWN ones STAND FOR, and the SOURCES of NEEDED ones, on and on, but no KNOWN ones.");
        s.due("nothing SHOWN", Due.of("lane a 0 9;b is add a 1;").all(0), 0);
        s.due("KNOWN ones SHOWN", Due.of("lane a 3 3;b is add a 1;show b;show 5;show a;").all(0), 0);
        s.due("on and on", Due.of("lane a 0 9;b is add a 1;c is add b 2;d is add c 3;show c;").all(0), 0b10101);
        s.due("what it stands for, not the pick", Due.of("lane a 0 9;f is less a 50;p is pick f a 7;show p;").all(0), 0b1);
        s.due("an INPUT", Due.of("lane a 0 9;show a;").all(0), 0b1);
        s.due("an open pick with its FLAG", Due.of("lane a 0 9;f is less a 5;p is pick f 1 7;show p;").all(0), 0b100101);
        // 511 * 0: c is KNOWN, so a is not NEEDED for it
        s.due("no SOURCES of KNOWN ones", Due.of("lane a 0 9;b is mul a 0;c is add b 7;show c;").all(0), 0);
    }

    private void users() {
        s.of(17, "USERS of a NEEDED one: those NEEDED of which it is a SOURCE.");
        ShaderReady x = Due.of("lane a 0 9;b is add a 1;c is add a 2;d is mul b b;show b;show d;");
        // a 0, 1 1, b 2, 2 3, c 4, d 5: c is not NEEDED
        s.due("a: b", x.kin(0, 1), 0b100);
        s.due("b: d", x.kin(2, 1), 0b100000);
        s.due("d: none", x.kin(5, 1), 0);
        s.due("c is not NEEDED", x.kin(4, 1), 0);
        s.due("a, on and on", x.kin(0, 3), 0b100100);
    }

    private void height() {
        s.of(9, "HEIGHT: how many NEEDED ones are on the longest way from it by USERS, itself, too.");
        ShaderReady x = Due.of("lane a 0 9;b is add a 1;c is add b 2;d is add c a;e is add a d;g is add e 9;show e;");
        // a 0, 1 1, b 2, 2 3, c 4, d 5, e 6, 9 7, g 8
        int[] want = {5, 0, 4, 0, 3, 2, 1, 0, 0};
        for (int v = 0; v < want.length; v++) {
            s.due("HEIGHT of " + v, x.value(v, 9), want[v]);
        }
        s.due("of one alone", Due.of("lane a 0 9;show a;").value(0, 9), 1);
    }

    private void eachBehindItsSources() {
        s.of(18, "ORDER: all NEEDED ones, each behind its SOURCES");
        for (int rule = 0; rule < 4; rule++) {
            ShaderReady x = Due.of("lane b 0 9;c is tex b;d is add c b;lane a 0 9;e is tex a;g is add e d;show g;show c;h is add g 1;");
            x.rule(rule);
            long seen = 0;
            for (int p = 0; p < x.count(3); p++) {
                int v = x.order(p);
                s.due("its SOURCES are ahead of " + v, x.kin(v, 0) & ~seen, 0);
                s.due("once", seen >>> v & 1, 0);
                seen |= 1L << v;
            }
            s.due("all NEEDED ones", seen, x.all(0));
        }
    }

    private void ruleZero() {
        s.of(18, "RULE 0 that by which WIDTHS that live behind it are least (its own, less those of SOURCES that end by it)");
        // y is wide: x first; then m ends y, but not x, which is kept
        ordered("lane y 0 999;lane x 0 9;m is min y x;show m;show x;", 0, 1, 0, 2);
        // b ends a: nothing more lives; the wide c waits
        ordered("lane a 0 9;lane c 0 999;b is min a 3;show b;show c;", 0, 0, 3, 1);
        // a is kept: b ends nothing, so the narrow d goes first by its HEIGHT
        ordered("lane a 0 9;lane d 0 9;b is min a 3;e is min d 4;g is min e 2;show a;show b;show g;", 0, 1, 5, 7, 0, 3);
        // a is kept, so b does not end it: d, as narrow, is of more HEIGHT
        ordered("lane a 0 9;lane d 0 9;b is min a 3;e is min d 4;show a;show b;show e;", 0, 0, 1, 5, 3);
        // a has another USER behind b, so b does not end it
        ordered("lane a 0 9;lane d 0 9;b is min a 3;c is min a 2;e is min d 4;show b;show c;show e;", 0, 0, 1, 7, 3, 5);
        // x ends its second SOURCE alone: that is enough to go ahead of e
        ordered("lane a 0 9;lane b 0 9;lane e 0 9;x is add a b;g is min e 3;show a;show x;show g;", 0, 0, 1, 3, 2, 5);
        // c has one SOURCE twice, which ends once: 2 - 1 is no less than 1 of b, which is of more HEIGHT
        ordered("lane a 0 99;lane b 0 9;c is mul a a;p is min a 5;q is min p 4;r is min q 3;d is min b 2;show c;show r;show d;", 0,
            0, 4, 6, 8, 1, 10, 2);
    }

    private void ruleZeroHeights() {
        s.of(18, "of equal ones that of the greatest HEIGHT, of these the lowest");
        ordered("lane a 0 9;lane b 0 9;c is add b 1;show a;show c;", 0, 1, 3, 0);
        ordered("lane a 0 9;lane b 0 9;lane c 0 9;show c;show b;show a;", 0, 0, 1, 2);
    }

    private void ruleOne() {
        s.of(18, "RULE 1 the lowest");
        ordered("lane a 0 999;lane b 0 9;c is tex b;d is add c a;show d;show b;", 1, 0, 1, 2, 3);
        ordered("given a 0 9;c is tex a;lane b 0 9;show c;show b;", 1, 0, 1, 2);
    }

    private void ruleTwo() {
        s.of(18, "RULE 2 that of the greatest HEIGHT, the lowest of these");
        ordered("lane a 0 9;lane b 0 999;c is add b 1;d is add c 2;show a;show d;", 2, 1, 3, 0, 5);
        ordered("lane a 0 9;lane b 0 9;lane c 0 9;show c;show b;show a;", 2, 0, 1, 2);
    }

    private void ruleThree() {
        s.of(18, "RULE 3 a tex, if there is one, else any; of these the lowest");
        // a 0, b 1, c 2 (tex), d 3 (tex)
        ordered("lane a 0 9;lane b 0 9;c is tex b;d is tex a;show c;show d;", 3, 0, 3, 1, 2);
        ordered("lane a 0 9;b is add a 1;c is tex a;d is tex b;show c;show d;", 3, 0, 3, 2, 4);
        ordered("lane a 0 9;c is tex a;d is tex 1;show d;show c;", 3, 3, 0, 1);
        ordered("lane a 0 9;lane b 0 9;show b;show a;", 3, 0, 1);
        ordered("c is tex 5;d is tex 6;lane a 0 9;show d;show c;show a;", 3, 2, 4, 0);
    }

    private void ends() {
        s.of(19, "to the end (past all PLACES: it ENDS at the number of PLACES)");
        ShaderReady x = Due.of(PLAIN);
        int[] want = {2, 5, 5, 3, 6, 6};
        for (int v = 0; v < want.length; v++) {
            s.due("place(" + v + ", 1)", x.place(v, 1), want[v]);
        }
        ShaderReady kept = Due.of("lane a 0 9;f is less a 50;p is pick f a 7;b is add a 1;c is add b 2;show p;show c;");
        s.due("what a SHOWN pick stands for is kept", kept.place(0, 1), 3);
        s.due("though its last USER is ahead", kept.place(kept.shown(1), 0), 2);
        s.due("one alone", Due.of("lane a 0 9;show a;").place(0, 1), 1);
    }

    private void atAPlace() {
        s.of(21, "PRESSURE at a PLACE: the WIDTHS of those with a PLACE no higher that END higher");
        ShaderReady x = Due.of(PLAIN);
        int[][] want = {{1, 1, 0, 0, 0, 0}, {0, 1, 2, 3, 5, 4}, {1, 2, 2, 3, 5, 4}};
        for (int file = 0; file < 3; file++) {
            for (int p = 0; p < 6; p++) {
                s.due("at(" + p + ", " + file + ")", x.at(p, file), want[file][p]);
            }
        }
    }

    private void theMostOfAll() {
        s.of(20, "the PRESSURE: the most of all PLACES (0: none)");
        ShaderReady x = Due.of(PLAIN);
        s.due("FILE 0", x.pressure(0), 1);
        s.due("FILE 1", x.pressure(1), 5);
        s.due("both together", x.pressure(2), 5);
        for (int file = 0; file < 3; file++) {
            s.due("none", Due.of("show 4;").pressure(file), 0);
        }
        // the files' own mosts are at unlike PLACES: 2 and 2, together 3
        ShaderReady apart = Due.of("given g 0 9;h is add g 1;lane a 0 9;b is add a h;show b;show g;");
        s.due("together", apart.pressure(2), 3);
    }

    private void leaveFirst() {
        s.of(19, "PLACE by PLACE first those that END there leave theirs");
        ShaderReady x = Due.of("lane a 0 9;b is add a 1;c is add b 2;show c;");
        for (int v : new int[] {0, 2, 4}) {
            s.due("all in the same HALF: " + v, x.place(v, 2), 0);
        }
        s.due("used", x.used(1), 1);
        ShaderReady wide = Due.of("lane a 0 999;b is add a 1;c is mul b 2;show c;");
        s.due("wide, too", wide.used(1), 2);
        ShaderReady both = Due.of("lane a 0 9;lane b 0 9;c is mul a b;d is mul c 9;show d;");
        s.due("a wide one takes what two leave", both.place(4, 2), 0);
        s.due("used by it", both.used(1), 2);
    }

    private void lowestFree() {
        s.of(19, "then the one there takes the lowest free HALF");
        ShaderReady x = Due.of("lane a 0 9;lane b 0 9;lane c 0 9;d is add a 1;show b;show c;show d;");
        x.rule(1);
        // a 0, b 1, c 2, d behind a in 0
        int[] want = {0, 1, 2, NONE, 0};
        for (int v = 0; v < want.length; v++) {
            s.due("place(" + v + ", 2)", x.place(v, 2), want[v]);
        }
    }

    private void lowestEven() {
        s.of(19, "or, of WIDTH 2, the lowest even one that is free with the next one");
        // a 0; b is wide: 2 and 3, not 1 and 2; c 1; d wide: 4 and 5
        ShaderReady x = Due.of("lane a 0 9;lane b 0 999;lane c 0 9;lane d 0 999;show a;show b;show c;show d;");
        x.rule(1);
        int[] want = {0, 2, 1, 4};
        for (int v = 0; v < want.length; v++) {
            s.due("place(" + v + ", 2)", x.place(v, 2), want[v]);
        }
        // a leaves 0, but 1 is taken: the wide e can't have 0, the narrow g can
        ShaderReady gap = Due.of("lane a 0 9;lane b 0 9;c is add a 1;e is mul c 800;g is add b 2;show b;show e;show g;");
        gap.rule(1);
        // a 0, b 1, 1 2, c 3, 800 4, e 5, 2 6, g 7
        s.due("c in 0", gap.place(3, 2), 0);
        s.due("e not in 0 and 1", gap.place(5, 2), 2);
        s.due("g in 0", gap.place(7, 2), 0);
        s.due("used", gap.used(1), 4);
    }

    private void usedEver() {
        s.of(22, "USED: HALVES up to the highest ever taken.");
        ShaderReady x = Due.of("lane a 0 999;lane b 0 999;lane c 0 999;d is min a b;e is min d c;g is min e 5;show g;");
        x.rule(1);
        s.due("three wide ones once, a narrow one at the end", x.used(1), 6);
        s.due("none in FILE 0", x.used(0), 0);
        ShaderReady hole = Due.of("lane a 0 9;lane b 0 999;show a;show b;");
        hole.rule(1);
        s.due("a free one below counts, too", hole.used(1), 4);
        s.due("the PRESSURE is less", hole.pressure(1), 3);
        ShaderReady narrow = Due.of("lane a 0 9;lane b 0 9;lane c 0 9;show a;show b;show c;");
        s.due("narrow ones", narrow.used(1), 3);
        // 64 VALUES, 35 of them wide and there at once: seven are kept, the others wait for their sums
        ShaderReady many = Due.of("lane a 0 999;b is copy a;times 7;b is tex b;show b;end;c is copy b;s is copy b;"
            + "times 7;times 4;b is tex b;end;end;times 7;times 4;c is tex c;s is add s c;end;end;show s;");
        s.due("VALUES", many.count(0), 64);
        many.rule(1);
        s.due("many", many.used(1), 70);
        s.due("their PRESSURE", many.pressure(1), 70);
        s.due("all are as walked", many.ran(3, 7), many.walked(3, 7));
        s.holds("fewer by another RULE", many.rule(0) == 1 && many.used(1) < 70);
        ShaderReady less = Due.of("given g 0 999;h is add g 1;show g;show h;");
        s.due("FILE 0", less.used(0), 4);
        s.holds("narrow", less.narrow(0, 0, 5));
        s.due("fewer by another RANGE", less.used(0), 2);
        s.due("from 0 again", less.place(0, 2), 0);
    }

    private void files() {
        s.of(22, "FILE 0 has the UNIFORM ones, 1 the others.");
        ShaderReady x = Due.of("given g 0 999;lane a 0 9;b is add g 1;c is add a g;show b;show c;show g;");
        s.due("FILE 0", x.used(0), 4);
        s.due("FILE 1", x.used(1), 2);
        s.due("g in 0 of FILE 0", x.place(0, 2), 0);
        s.due("a in 0 of FILE 1", x.place(1, 2), 0);
        s.due("PRESSURE of FILE 0", x.pressure(0), 4);
        s.due("PRESSURE of FILE 1", x.pressure(1), 2);
    }

    private static String texs(int count) {
        StringBuilder text = new StringBuilder("lane a 0 999;");
        for (int i = 0; i < count; i++) {
            text.append("b is add a ").append(i).append(";b is tex b;show b;");
        }
        return text.toString();
    }

    private void fetchLimit() {
        s.of(23, "but of a FETCH no more than fetch tells");
        for (int fetch = 1; fetch <= 8; fetch++) {
            ShaderReady x = Due.of("fetch " + fetch + ";" + texs(8));
            x.rule(2);
            // a and eight sums, then eight texs
            int first = x.place(x.order(9), 3);
            s.due("fetch " + fetch + ": rows", x.count(5) - first, (8 + fetch - 1) / fetch);
            s.due("fetch " + fetch + ": the first", x.clause(first, 2), fetch);
            s.due("fetch " + fetch + ": the last", x.clause(x.count(5) - 1, 2), 8 % fetch == 0 ? fetch : 8 % fetch);
        }
        ShaderReady four = Due.of(texs(8));
        four.rule(2);
        s.due("4 if it is not told", four.clause(four.count(5) - 1, 2), 4);
    }

    private void sourceInTheSameRow() {
        s.of(23, "and none of which the SOURCE is in the same row");
        ShaderReady x = Due.of("lane a 0 9;b is tex a;c is tex b;d is tex c;show d;");
        s.due("three rows of one", x.count(5), 4);
        for (int k = 1; k < 4; k++) {
            s.due("row " + k, x.clause(k, 2), 1);
        }
        // b, c, then d of b: a row of d and e
        ShaderReady two = Due.of("lane a 0 9;b is tex a;c is tex 1;d is tex b;e is tex c;show d;show e;");
        two.rule(1);
        s.due("rows", two.count(5), 3);
        s.due("b, c", two.clause(1, 2), 2);
        s.due("d, e", two.clause(2, 2), 2);
        // a SOURCE in the row ahead of the last one does not hinder
        ShaderReady ahead = Due.of("fetch 1;lane a 0 9;b is tex a;c is tex 1;d is tex b;show c;show d;");
        ahead.rule(1);
        s.due("fetch 1 anyway", ahead.count(5), 4);
        // an ALU may have its SOURCES in its row
        s.due("an ALU", Due.of("lane a 0 9;b is add a 1;c is add b a;show c;").count(5), 1);
    }

    private void aluLimit() {
        s.of(23, "of an ALU no more than alu tells");
        StringBuilder sums = new StringBuilder("lane a 0 9;b is copy a;");
        sums.append("times 8;times 2;b is add b a;end;end;show b;");
        for (int alu = 1; alu <= 16; alu++) {
            ShaderReady x = Due.of("alu " + alu + ";" + sums);
            s.due("alu " + alu + ": NEEDED", x.count(3), 17);
            s.due("alu " + alu + ": rows", x.count(5), (17 + alu - 1) / alu);
            s.due("alu " + alu + ": the first", x.clause(0, 2), alu);
            s.due("alu " + alu + ": the last", x.clause(x.count(5) - 1, 2), 17 % alu == 0 ? alu : 17 % alu);
        }
        s.due("8 if it is not told", Due.of(sums.toString()).clause(0, 2), 8);
    }

    private void asLongAsCanBe() {
        s.of(23, "CLAUSES: the ORDER cut into rows of tex (FETCH) and of others (ALU), each as long as can be");
        ShaderReady x = Due.of("lane a 0 9;b is tex a;lane c 0 9;d is tex c;e is add b d;show e;");
        x.rule(1);
        // a c | b d | e
        int[][] want = {{0, 0, 2}, {1, 2, 2}, {0, 4, 1}};
        for (int k = 0; k < 3; k++) {
            for (int what = 0; what < 3; what++) {
                s.due("clause(" + k + ", " + what + ")", x.clause(k, what), want[k][what]);
            }
        }
        s.due("no more", x.count(5), 3);
        s.due("none at all", Due.of("show 3;").count(5), 0);
    }

    private void cyclesOfAFetch() {
        s.of(23, "CYCLES: a FETCH 12, and 2 for each");
        ShaderReady x = Due.of("t is tex 1;show t;");
        s.due("one", x.clause(0, 3), 14);
        ShaderReady four = Due.of("t is tex 1;u is tex 2;v is tex 3;w is tex 4;show t;show u;show v;show w;");
        s.due("four", four.clause(0, 3), 20);
        s.due("count(6)", four.count(6), 20);
    }

    private void cyclesOfAnAlu() {
        s.of(23, "an ALU 2, and for each: 1, if it is UNIFORM or an INPUT, else its WIDTH, twice that of a mul.");
        String[] texts = {"given g 0 999;show g;", "lane a 0 999;show a;", "given g 0 999;b is mul g g;show b;",
            "lane a 0 9;b is add a 1;show b;", "lane a 0 999;b is add a 1;show b;", "lane a 0 9;b is mul a 2;show b;",
            "lane a 0 999;b is mul a 2;show b;", "lane a 0 999;b is mul a 0;c is add b a;show c;", "lane a 0 999;f is less a 5;p is pick f 1 2;show p;"};
        int[] want = {3, 3, 4, 4, 5, 5, 7, 5, 5};
        for (int i = 0; i < texts.length; i++) {
            s.due("of " + texts[i], Due.of(texts[i]).count(6), want[i]);
        }
        s.due("of none", Due.of("show 1;").count(6), 0);
    }

    private void least() {
        s.of(28, "BEST: the least PRESSURE (of both FILES together) of all ORDERS, each VALUE behind its SOURCES, by whatever rule.");
        s.due("plain", Due.of(PLAIN).best(), 4);
        s.due("none", Due.of("show 1;").best(), 0);
        s.due("a new object", new ShaderReady().best(), 0);
        s.due("one", Due.of("lane a 0 999;show a;").best(), 2);
        s.due("one of FILE 0", Due.of("given a 0 999;show a;").best(), 2);
        s.due("of both together", Due.of("given a 0 999;lane b 0 9;show a;show b;").best(), 3);
        ShaderReady x = Due.of(PLAIN);
        for (int rule = 0; rule < 4; rule++) {
            x.rule(rule);
            s.due("whatever the RULE is", x.best(), 4);
            s.holds("no more than by RULE " + rule, x.best() <= x.pressure(2));
        }
        s.holds("narrow", x.narrow(2, 0, 3));
        s.due("it goes by the WIDTHS there are", x.best(), 3);
    }

    private void moreThanTwelve() {
        s.of(28, "BEST; NONE: more than 12 are NEEDED.");
        String text = "lane a 0 9;b is copy a;times 9;b is add b a;end;b is sub b a;";
        ShaderReady eleven = Due.of(text + "show b;");
        s.due("11", eleven.count(3), 11);
        s.due("best of 11", eleven.best(), 2);
        ShaderReady twelve = Due.of(text + "b is sub b a;show b;");
        s.due("12", twelve.count(3), 12);
        s.due("best of 12", twelve.best(), 2);
        ShaderReady more = Due.of(text + "b is sub b a;b is sub b a;show b;");
        s.due("13", more.count(3), 13);
        s.due("best of 13", more.best(), NONE);
        s.holds("narrow", more.narrow(0, 0, 0));
        s.due("0 then", more.best(), 0);
        // six INPUTS, five sums, a tex: the last sum and the tex are kept
        ShaderReady sums = Due.of("lane a 0 9;lane b 0 9;lane c 0 9;lane d 0 9;lane e 0 9;lane f 0 9;"
            + "g is add a b;g is add g c;g is add g d;g is add g e;g is add g f;h is tex g;show g;show h;");
        s.due("12 of six INPUTS", sums.count(3), 12);
        s.due("best of these", sums.best(), 3);
        ShaderReady many = Due.of("lane a 0 9;b is copy a;times 9;times 7;b is add b a;end;end;show b;");
        s.due("64", many.count(3), 64);
        s.due("best of 64", many.best(), NONE);
    }

    private void kinOthers() {
        s.of(17, "3: USERS, theirs, on and on; 0: others.");
        ShaderReady x = Due.of("lane a 0 9;b is add a 1;c is add a 2;show b;");
        s.due("SOURCES", x.kin(2, 0), 0b1);
        s.due("what 4", x.kin(2, 4), 0);
        s.due("not NEEDED", x.kin(4, 0), 0);
        s.due("KNOWN", x.kin(1, 1), 0);
        s.due("behind the last", x.kin(5, 1), 0);
        for (int far : FAR) {
            s.due("kin(" + far + ", 1)", x.kin(far, 1), 0);
            s.due("kin(0, " + far + ")", x.kin(0, far), 0);
        }
        s.of(17, "2: SOURCES, theirs, on and on");
        ShaderReady full = Due.of("lane a 0 9;b is copy a;times 9;times 7;b is add b a;end;end;show b;");
        s.due("63 ahead of the last", full.kin(63, 2), Long.MAX_VALUE);
        s.due("63 behind the first", full.kin(0, 3), -2L);
        s.due("USERS of the first", full.kin(0, 1), -2L);
        s.due("SOURCES of the last", full.kin(63, 0), 1L << 62 | 1);
    }

    private void orderNoneSuch() {
        s.of(18, "The VALUE at a PLACE; NONE: none such.");
        ShaderReady x = Due.of(PLAIN);
        s.due("the first", x.order(0), 0);
        s.due("the last", x.order(5), 5);
        s.due("behind it", x.order(6), NONE);
        for (int far : FAR) {
            s.due("order(" + far + ")", x.order(far), NONE);
        }
        s.due("none NEEDED", Due.of("show 1;").order(0), NONE);
    }

    private void placeInAnyOrder() {
        s.of(19, "4: its lowest, 5: its highest PLACE in any ORDER by whatever rule");
        ShaderReady x = Due.of(PLAIN);
        int[][] want = {{0, 3}, {0, 2}, {0, 4}, {2, 4}, {3, 5}, {2, 5}};
        for (int v = 0; v < want.length; v++) {
            s.due("lowest of " + v, x.place(v, 4), want[v][0]);
            s.due("highest of " + v, x.place(v, 5), want[v][1]);
        }
        ShaderReady one = Due.of("lane a 0 9;show a;");
        s.due("one alone, lowest", one.place(0, 4), 0);
        s.due("one alone, highest", one.place(0, 5), 0);
    }

    private void placeOthers() {
        s.of(19, "in any ORDER by whatever rule; NONE: others.");
        ShaderReady x = Due.of("lane a 0 9;b is add a 1;c is add a 2;show b;");
        s.due("its PLACE", x.place(2, 0), 1);
        for (int what = 0; what < 6; what++) {
            s.due("not NEEDED, " + what, x.place(4, what), NONE);
            s.due("KNOWN, " + what, x.place(1, what), NONE);
            s.due("behind the last, " + what, x.place(5, what), NONE);
        }
        s.due("what 6", x.place(0, 6), NONE);
        for (int far : FAR) {
            s.due("place(" + far + ", 0)", x.place(far, 0), NONE);
            s.due("place(0, " + far + ")", x.place(0, far), NONE);
        }
    }

    private void pressureOthers() {
        s.of(20, "PRESSURE of a FILE (2: of both together); NONE: others.");
        ShaderReady x = Due.of(PLAIN);
        s.due("pressure(2)", x.pressure(2), 5);
        s.due("pressure(3)", x.pressure(3), NONE);
        for (int far : FAR) {
            s.due("pressure(" + far + ")", x.pressure(far), NONE);
        }
    }

    private void atOthers() {
        s.of(21, "PRESSURE at a PLACE, likewise; NONE: others.");
        ShaderReady x = Due.of(PLAIN);
        s.due("at(5, 2)", x.at(5, 2), 4);
        s.due("at(6, 2)", x.at(6, 2), NONE);
        s.due("at(0, 3)", x.at(0, 3), NONE);
        for (int far : FAR) {
            s.due("at(" + far + ", 1)", x.at(far, 1), NONE);
            s.due("at(0, " + far + ")", x.at(0, far), NONE);
        }
        s.due("no PLACE", Due.of("show 1;").at(0, 0), NONE);
    }

    private void usedOthers() {
        s.of(22, "USED of a FILE (0, 1); NONE: others.");
        ShaderReady x = Due.of(PLAIN);
        s.due("used(0)", x.used(0), 1);
        s.due("used(1)", x.used(1), 6);
        s.due("used(2)", x.used(2), NONE);
        for (int far : FAR) {
            s.due("used(" + far + ")", x.used(far), NONE);
        }
    }

    private void clauseOthers() {
        s.of(23, "3: CYCLES; NONE: others, none such.");
        ShaderReady x = Due.of(PLAIN);
        s.due("clause(2, 3)", x.clause(2, 3), 7);
        s.due("clause(3, 0)", x.clause(3, 0), NONE);
        s.due("clause(0, 4)", x.clause(0, 4), NONE);
        for (int far : FAR) {
            s.due("clause(" + far + ", 1)", x.clause(far, 1), NONE);
            s.due("clause(0, " + far + ")", x.clause(0, far), NONE);
        }
        s.due("none", Due.of("show 1;").clause(0, 0), NONE);
    }

    private void nextIs() {
        s.of(18, "next is of those that are not in it, and of which all SOURCES are");
        // by each RULE: the tex waits for the sum, the sum for both INPUTS
        ShaderReady x = Due.of("lane a 0 9;lane c 0 9;b is add a c;d is tex b;e is add d a;show e;");
        for (int rule = 0; rule < 4; rule++) {
            x.rule(rule);
            int[] want = {0, 1, 2, 3, 4, NONE};
            for (int p = 0; p < want.length; p++) {
                s.due("RULE " + rule + " order(" + p + ")", x.order(p), want[p]);
            }
        }
    }

    private void placesFromZero() {
        s.of(18, "PLACES from 0.");
        ShaderReady x = Due.of("lane a 0 9;show a;");
        s.due("order(0)", x.order(0), 0);
        s.due("place(0, 0)", x.place(0, 0), 0);
        s.due("order(1)", x.order(1), NONE);
    }

    private void lives() {
        s.of(19, "A VALUE LIVES from its PLACE to the last one of its USERS (it ENDS there), or, if a SHOWN one STANDS FOR it");
        ShaderReady x = Due.of("lane a 0 9;b is add a 1;c is add b a;d is add c a;e is add d b;show e;");
        // a 0, 1 1, b 2, c 3, d 4, e 5: PLACES a 0, b 1, c 2, d 3, e 4
        int[] ends = {3, NONE, 4, 3, 4, 5};
        for (int v = 0; v < ends.length; v++) {
            s.due("place(" + v + ", 1)", x.place(v, 1), ends[v]);
        }
        ShaderReady shown = Due.of("lane a 0 9;b is add a 1;c is add b a;show b;show c;");
        s.due("b is SHOWN", shown.place(2, 1), 3);
        s.due("a is not", shown.place(0, 1), 2);
        ShaderReady stands = Due.of("lane a 0 9;f is less a 50;p is pick f a 7;b is add a 1;show p;show b;");
        s.due("p, which is SHOWN, stands for a", stands.place(0, 1), 2);
    }

    private void halvesFromZero() {
        s.of(19, "REGISTERS are HALVES, from 0, of each FILE");
        ShaderReady x = Due.of("given g 0 9;given h 0 999;lane a 0 9;lane b 0 999;show g;show h;show a;show b;");
        x.rule(1);
        int[] want = {0, 2, 0, 2};
        for (int v = 0; v < want.length; v++) {
            s.due("place(" + v + ", 2)", x.place(v, 2), want[v]);
        }
        s.due("used(0)", x.used(0), 4);
        s.due("used(1)", x.used(1), 4);
    }

    private void kinWhats() {
        s.of(17, "Of a NEEDED VALUE as bits, what 0: SOURCES, 1: USERS");
        ShaderReady x = Due.of("lane a 0 9;lane b 0 9;c is add a b;d is add c a;e is tex c;show d;show e;");
        long[][] want = {{0, 0b01100, 0, 0b11100}, {0, 0b00100, 0, 0b11100}, {0b00011, 0b11000, 0b00011, 0b11000},
            {0b00101, 0, 0b00111, 0}, {0b00100, 0, 0b00111, 0}};
        for (int v = 0; v < want.length; v++) {
            for (int what = 0; what < 4; what++) {
                s.due("kin(" + v + ", " + what + ")", x.kin(v, what), want[v][what]);
            }
        }
    }

    private void placeWhats() {
        s.of(19, "Of a NEEDED VALUE, what 0: its PLACE, 1: where it ENDS, 2: its lowest REGISTER, 3: its CLAUSE");
        ShaderReady x = Due.of(PLAIN);
        int[][] want = {{0, 2, 0, 0}, {1, 5, 0, 0}, {4, 5, 4, 2}, {2, 3, 1, 0}, {3, 6, 2, 1}, {5, 6, 0, 2}};
        for (int v = 0; v < want.length; v++) {
            for (int what = 0; what < 4; what++) {
                s.due("place(" + v + ", " + what + ")", x.place(v, what), want[v][what]);
            }
        }
    }

    private void clauseWhats() {
        s.of(23, "Of the k-th CLAUSE (from 0), what 0: 1 FETCH (0 ALU), 1: its first PLACE, 2: how many PLACES");
        ShaderReady x = Due.of(PLAIN);
        int[][] want = {{0, 0, 3, 5}, {1, 3, 1, 14}, {0, 4, 2, 7}};
        for (int k = 0; k < want.length; k++) {
            for (int what = 0; what < 4; what++) {
                s.due("clause(" + k + ", " + what + ")", x.clause(k, what), want[k][what]);
            }
        }
        ShaderReady first = Due.of("t is tex 1;u is add t 1;show u;");
        s.due("a FETCH first", first.clause(0, 0), 1);
        s.due("an ALU behind it", first.clause(1, 0), 0);
    }
}
