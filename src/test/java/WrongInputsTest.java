import java.util.NoSuchElementException;
import java.util.Random;

/** Numbers from far outside, in any state: nothing but the document's exception ever comes. */
public final class WrongInputsTest {
    private static final int[] FAR = {Integer.MIN_VALUE, Integer.MIN_VALUE + 1, -1000000, -65, -2, -1, 0, 1, 2, 3, 4, 5, 6, 7, 8,
        9, 10, 11, 12, 13, 15, 16, 31, 32, 63, 64, 65, 127, 128, 199, 200, 999, 1000, 1 << 20, 1 << 30, Integer.MAX_VALUE - 1,
        Integer.MAX_VALUE};
    private static final Due DUE = new Due();

    public static void main(String[] args) {
        Random random = new Random(7);
        for (int round = 0; round < 3000; round++) {
            ShaderReady x = new ShaderReady();
            Texts texts = new Texts(round);
            for (int i = 0; i < 2; i++) {
                if (round % 10 > 0) {
                    String text = texts.shader(2 + round % 40);
                    Due.shader(x, text.substring(0, Math.min(1000, text.length())));
                }
                for (int n = 0; n < 200; n++) {
                    call(x, random);
                }
            }
        }
        outside();
        DUE.end();
    }

    private static int far(Random random) {
        return random.nextInt(20) == 0 ? random.nextInt() : FAR[random.nextInt(FAR.length)];
    }

    private static void call(ShaderReady x, Random random) {
        int a = far(random);
        int b = far(random);
        int c = far(random);
        int d = far(random);
        String call = "(" + a + ", " + b + ", " + c + ", " + d + ")";
        int which = random.nextInt(30);
        try {
            switch (which) {
                case 0: DUE.holds("feed", x.feed(random.nextLong(), random.nextLong(), random.nextLong()) <= 1000); break;
                case 1: DUE.holds("shader", x.shader() >= 0); break;
                case 2: x.set(a, b, c); break;
                case 3: x.cell(a, b); break;
                case 4: x.rule(a); break;
                case 5: x.narrow(a, b, c); break;
                case 6: x.input(a, b); break;
                case 7: x.value(a, b); break;
                case 8: x.range(a, b); break;
                case 9: x.is(a, b); break;
                case 10: x.differs(a); break;
                case 11: x.shown(a); break;
                case 12: x.all(a); break;
                case 13: x.kin(a, b); break;
                case 14: x.order(a); break;
                case 15: x.place(a, b); break;
                case 16: x.pressure(a); break;
                case 17: x.at(a, b); break;
                case 18: x.used(a); break;
                case 19: x.clause(a, b); break;
                case 20: x.by(a, b); break;
                case 21: x.alone(a, b); break;
                case 22: x.narrowed(a, b, c, d); break;
                case 23: x.swapped(a, b); break;
                case 24: x.best(); break;
                case 25: x.parts(a); break;
                case 26: x.count(a); break;
                default: walkAndRun(x, a, b); break;
            }
        } catch (RuntimeException thrown) {
            DUE.due("call " + which + call + " threw " + thrown, 1, 0);
        }
    }

    private static void walkAndRun(ShaderReady x, int lane, int i) {
        boolean there = lane >= 0 && lane < 4 && i >= 0 && i < x.count(2);
        int threw = 0;
        try {
            DUE.due("walked is what it is", x.walked(lane, i), x.is(x.shown(i), lane));
        } catch (NoSuchElementException none) {
            threw++;
        }
        try {
            DUE.due("ran is what it is", x.ran(lane, i), x.is(x.shown(i), lane));
        } catch (NoSuchElementException none) {
            threw++;
        }
        DUE.due("threw", threw, there ? 0 : 2);
    }

    /** What lies outside in any shader of no more than 8 SHOWN, 64 VALUES, 6 INPUTS. */
    private static void outside() {
        ShaderReady x = Due.of("lane a 0 9;b is add a 1;c is tex b;show c;");
        int[] outside = {Integer.MIN_VALUE, -1, 64, Integer.MAX_VALUE};
        for (int o : outside) {
            DUE.due("set", x.set(o, 0, 0) + x.set(0, o, 0) + x.set(0, 0, o), -3);
            DUE.due("cell", x.cell(o, 0), -1);
            DUE.due("rule", x.rule(o), -1);
            DUE.due("input", x.input(o, 0) + x.input(0, o), -2);
            DUE.due("value", x.value(o, 0) + x.value(0, o), -4);
            DUE.holds("range", x.range(o, 0) == Integer.MIN_VALUE && x.range(0, o) == Integer.MIN_VALUE);
            DUE.holds("is", x.is(o, 0) == Integer.MIN_VALUE && x.is(0, o) == Integer.MIN_VALUE);
            DUE.due("differs", x.differs(o), -1);
            DUE.due("shown", x.shown(o), -1);
            DUE.due("all", x.all(o), 0);
            DUE.due("kin", x.kin(o, 0) + x.kin(0, o), 0);
            DUE.due("order", x.order(o), -1);
            DUE.due("place", x.place(o, 0) + x.place(0, o), -2);
            DUE.due("pressure", x.pressure(o), -1);
            DUE.due("at", x.at(o, 0) + x.at(0, o), -2);
            DUE.due("used", x.used(o), -1);
            DUE.due("clause", x.clause(o, 0) + x.clause(0, o), -2);
            DUE.due("by", x.by(o, 0) + x.by(0, o), -2);
            DUE.due("alone", x.alone(o, 0) + x.alone(0, o), -2);
            DUE.due("narrowed", x.narrowed(o, 0, 1, 0) + x.narrowed(0, 0, 1, o), -2);
            DUE.due("swapped", x.swapped(o, 0) + x.swapped(0, o), -2);
            DUE.due("parts", x.parts(o), -1);
            DUE.due("count", x.count(o), -1);
        }
    }
}
