import java.util.ArrayList;
import java.util.List;
import java.util.Random;

/** Texts made by chance from a seed: most are shaders without a fault, some are broken on purpose. */
final class Texts {
    private static final String[] POOL = {"a", "b", "c", "d", "e", "f", "g", "h", "k", "m", "n", "p", "q", "r", "s",
        "t", "u", "v", "w", "x", "y", "z", "aa", "bb", "cc"};
    private static final String[] NUM_OPS = {"add", "sub", "mul", "min", "max", "tex", "add", "mul", "tex"};
    private static final String[] FLAG_OPS = {"less", "less", "same", "both", "either", "flip"};
    private static final String[] PIECES = {"given", "lane", "fetch", "alu", "is", "when", "else", "times", "end",
        "show", "add", "pick", "copy", "flip", "tex", ";", ";", "1", "9", "1000", "0", "zz", "abcdefg", "abcdefgh", "?",
        "A", "a", "b", "f", "17", "\n", "007"};

    private final Random random;
    private StringBuilder text;
    private List<String> nums;
    private List<String> flags;
    private List<String> inputs;
    private int shows;
    private int size;
    private int pool;
    /** Whether numbers and narrow ranges are rare, so that much is needed. */
    private boolean rich;

    Texts(long seed) {
        random = new Random(seed);
    }

    private int upTo(int n) {
        return random.nextInt(n);
    }

    private <T> T any(List<T> list) {
        return list.get(upTo(list.size()));
    }

    private String number() {
        int kind = upTo(10);
        return "" + (kind < 5 ? upTo(6) : kind < 8 ? upTo(40) : upTo(1000));
    }

    String shader(int lines) {
        text = new StringBuilder();
        nums = new ArrayList<>();
        flags = new ArrayList<>();
        inputs = new ArrayList<>();
        shows = 0;
        size = lines;
        rich = upTo(2) == 0;
        pool = rich ? POOL.length : 3 + upTo(POOL.length - 2);
        if (upTo(3) == 0) {
            text.append("fetch ").append(1 + upTo(4)).append(" ; ");
        }
        if (upTo(3) == 0) {
            text.append("alu ").append(1 + upTo(5)).append(" ;\n");
        }
        int count = rich ? 2 + upTo(5) : upTo(5);
        for (int i = 0; i < count; i++) {
            input();
        }
        lines(0, false);
        if (upTo(5) == 0) {
            input();
        }
        while (shows < 1 + upTo(rich ? 9 : 4) && shows < 8 && text.length() < 980) {
            show();
        }
        return text.toString();
    }

    private void input() {
        String name = POOL[upTo(pool)];
        if (inputs.size() >= 6 || nums.contains(name) || flags.contains(name)) {
            return;
        }
        int low = upTo(3) == 0 ? upTo(1000) : upTo(30);
        int high = upTo(rich ? 30 : 8) == 0 ? low : upTo(3) == 0 ? low + upTo(1000 - low) : Math.min(999, low + upTo(30));
        text.append(upTo(2) == 0 ? "given " : "lane ").append(name).append(' ').append(low).append(' ')
            .append(high).append(upTo(2) == 0 ? ";" : " ; ");
        nums.add(name);
        inputs.add(name);
    }

    private void show() {
        text.append("show ").append(nums.isEmpty() || upTo(12) == 0 ? number() : nums.get(Math.max(0,
            nums.size() - 1 - upTo(nums.size())))).append(";");
        shows++;
    }

    private String num() {
        return nums.isEmpty() || upTo(rich ? 12 : 4) == 0 ? number() : any(nums);
    }

    private void lines(int depth, boolean inWhen) {
        int count = 1 + upTo(depth == 0 ? size : 4) + (rich && depth == 0 ? size : 0);
        for (int i = 0; i < count && text.length() < 940; i++) {
            int kind = upTo(14);
            if (kind < 2 && depth < 4 && !flags.isEmpty()) {
                when(depth);
            } else if (kind == 2 && depth < 4) {
                text.append("times ").append(2 + upTo(upTo(4) == 0 ? 8 : 2)).append(";");
                lines(depth + 1, inWhen);
                text.append("end;");
            } else if (kind == 3 && !inWhen && shows < 8) {
                show();
            } else {
                is();
            }
        }
    }

    private void when(int depth) {
        text.append("when ").append(any(flags)).append(";");
        List<String> numsHere = new ArrayList<>(nums);
        List<String> flagsHere = new ArrayList<>(flags);
        lines(depth + 1, true);
        nums = new ArrayList<>(numsHere);
        flags = new ArrayList<>(flagsHere);
        if (upTo(3) > 0) {
            text.append("else;");
            lines(depth + 1, true);
            nums = numsHere;
            flags = flagsHere;
        }
        text.append("end;");
    }

    private void is() {
        String name = POOL[upTo(pool)];
        if (inputs.contains(name) && (nums.contains(name))) {
            return;
        }
        boolean flag = flags.contains(name) || !nums.contains(name) && upTo(3) == 0;
        boolean isNew = !flags.contains(name) && !nums.contains(name);
        if (isNew && nums.size() + flags.size() >= 20) {
            return;
        }
        text.append(name).append(" is ");
        boolean picks = !flags.isEmpty() && upTo(4) == 0;
        if (flag) {
            flagOp(picks);
        } else if (picks) {
            text.append("pick ").append(any(flags)).append(' ').append(num()).append(' ').append(num());
        } else if (upTo(8) == 0) {
            text.append("copy ").append(num());
        } else {
            String op = NUM_OPS[upTo(NUM_OPS.length)];
            text.append(op).append(' ').append(num());
            if (!op.equals("tex")) {
                text.append(' ').append(num());
            }
        }
        text.append(";");
        if (isNew) {
            (flag ? flags : nums).add(name);
        }
    }

    private void flagOp(boolean picks) {
        String op = FLAG_OPS[upTo(FLAG_OPS.length)];
        if (picks) {
            text.append("pick ").append(any(flags)).append(' ').append(any(flags)).append(' ').append(any(flags));
        } else if (!flags.isEmpty() && upTo(10) == 0) {
            text.append("copy ").append(any(flags));
        } else if (flags.isEmpty() || op.equals("less") || op.equals("same")) {
            text.append(upTo(3) == 0 ? "same " : "less ").append(num()).append(' ').append(num());
        } else if (op.equals("flip")) {
            text.append("flip ").append(any(flags));
        } else {
            text.append(op).append(' ').append(any(flags)).append(' ').append(any(flags));
        }
    }

    /** A text with some of its pieces taken out, put in, changed or cut. */
    String broken(String whole) {
        StringBuilder b = new StringBuilder(whole);
        int times = 1 + upTo(2);
        for (int i = 0; i < times && b.length() > 0; i++) {
            int at = upTo(b.length());
            switch (upTo(6)) {
                case 0: b.deleteCharAt(at); break;
                case 1: b.insert(at, " " + PIECES[upTo(PIECES.length)] + " "); break;
                case 2: b.setLength(at); break;
                case 3: replaceToken(b); break;
                case 4: replaceToken(b); break;
                default: b.setCharAt(at, (char) (32 + upTo(95))); break;
            }
        }
        if (b.length() > 1000) {
            b.setLength(1000);
        }
        return b.toString();
    }

    private void replaceToken(StringBuilder b) {
        List<Oracle.Token> tokens = Oracle.tokens(b.toString());
        Oracle.Token token = any(tokens);
        String piece = upTo(2) == 0 ? PIECES[upTo(PIECES.length)] : any(tokens).text();
        b.replace(token.place(), token.place() + token.text().length(), piece);
    }
}
