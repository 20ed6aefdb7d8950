/** What the tests have in common: counting what is not as due, and feeding a text. */
final class Due {
    private int wrong = 0;
    private long asked = 0;

    void due(String call, long got, long want) {
        asked++;
        if (got != want) {
            wrong++;
            if (wrong <= 40) {
                System.out.println(call + " answered " + got + ", due is " + want);
            }
        }
    }

    void holds(String what, boolean so) {
        due(what, so ? 1 : 0, 1);
    }

    boolean anyWrong() {
        return wrong > 0;
    }

    void end() {
        System.out.println(asked + " answers, " + (wrong == 0 ? "all as due" : wrong + " not as due"));
        if (wrong != 0) {
            System.exit(1);
        }
    }

    /** Feeds a text in calls of 24 signs; answers what the last call answered. */
    static int feed(ShaderReady x, String text) {
        int there = x.count(11);
        for (int i = 0; i < text.length(); i += 24) {
            there = x.feed(eight(text, i), eight(text, i + 8), eight(text, i + 16));
        }
        return there;
    }

    private static long eight(String text, int from) {
        long bits = 0;
        for (int i = from; i < from + 8; i++) {
            bits = bits << 8 | (i < text.length() ? text.charAt(i) : 0);
        }
        return bits;
    }

    static int shader(ShaderReady x, String text) {
        feed(x, text);
        return x.shader();
    }

    static ShaderReady of(String text) {
        ShaderReady x = new ShaderReady();
        int fault = shader(x, text);
        if (fault != 0) {
            throw new IllegalStateException("fault " + fault + " of " + text);
        }
        return x;
    }
}
