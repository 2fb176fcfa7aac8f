import java.util.Random;

/** Functions near the limits, changed again and again: only what the document names is thrown, and runs stay the same. */
public final class StressTest {
    private static int wrong = 0;
    private static int refusals = 0;
    private static int done = 0;

    private StressTest() {
    }

    public static void main(String[] args) {
        int last = args.length > 0 ? Integer.parseInt(args[0]) : 150;
        for (int seed = 1; seed <= last && wrong < 5; seed++) {
            Random random = new Random(seed);
            String text = dense(random);
            try {
                changes(text, random);
            } catch (RuntimeException e) {
                wrong++;
                e.printStackTrace(System.out);
                System.out.println("seed " + seed + ":\n" + text);
            }
        }
        System.out.println(done + " changes done, " + refusals + " refused");
        if (wrong != 0) {
            System.exit(1);
        }
    }

    private static void changes(String text, Random random) {
        SsaForge x = new SsaForge();
        if (Call.read(x, text) != -1) {
            throw new IllegalStateException("the text is wrong");
        }
        Call.giveInput(x, 3, 1, 4, 1, 5, 9, 2, 6, 5, 3, 5, 8, 9, 7, 9, 3);
        String meaning = meaning(x, 5000);
        for (int i = 0; i < 40; i++) {
            change(x, random);
            ask(x);
            String now = meaning.isEmpty() ? "" : meaning(x, 100000);
            if (!meaning.equals(now) && !now.isEmpty()) {
                throw new IllegalStateException("the meaning was " + meaning + " and is " + now);
            }
        }
    }

    private static void change(SsaForge x, Random random) {
        int before = x.count(0);
        try {
            if (before == 0) {
                x.ssa();
            } else if (before == 2 || random.nextInt(6) == 0) {
                x.plain();
            } else {
                x.pass(1 + random.nextInt(random.nextInt(3) == 0 ? 7 : 6));
            }
            done++;
        } catch (ArithmeticException e) {
            refusals++;
            if (x.count(0) != before) {
                throw new IllegalStateException("a refused call has changed something");
            }
        }
    }

    private static void ask(SsaForge x) {
        for (int what = 0; what < 8; what++) {
            x.count(what);
        }
        for (int b = 0; b < x.count(1); b++) {
            for (int what = 0; what < 5; what++) {
                x.block(b, what);
            }
        }
        try {
            int length = x.list();
            x.word(length - 1);
        } catch (IllegalStateException e) {
            refusals++;
        }
    }

    private static String meaning(SsaForge x, int fuel) {
        if (x.run(fuel) == 4) {
            return "";
        }
        StringBuilder all = new StringBuilder();
        all.append(x.told(4)).append(" ").append(x.told(0)).append(" ").append(x.told(3));
        for (int i = 0; i < x.told(1); i++) {
            all.append(" ").append(x.shown(i));
        }
        return all.toString();
    }

    // ---- texts with much of everything

    private static String dense(Random random) {
        int blocks = 3 + random.nextInt(57);
        int registers = 1 + random.nextInt(random.nextBoolean() ? 25 : 150);
        int hub = 1 + random.nextInt(blocks - 1);
        int toHub = random.nextInt(100);
        int rowsLeft = 200;
        StringBuilder text = new StringBuilder();
        for (int b = 0; b < blocks; b++) {
            text.append("b").append(b).append(":");
            int rows = Math.min(rowsLeft, random.nextInt(2 * 200 / blocks + 1));
            rowsLeft -= rows;
            for (int i = 0; i < rows; i++) {
                text.append(row(random, registers));
            }
            int forward = Math.min(blocks - 1, b + 1 + random.nextInt(3));
            int any = random.nextInt(100) < toHub ? hub : 1 + random.nextInt(blocks - 1);
            if (b == blocks - 1) {
                text.append("ret v0 ");
            } else if (random.nextInt(12) == 0) {
                text.append("jump b").append(forward).append(" ");
            } else {
                text.append("if v").append(random.nextInt(registers));
                text.append(random.nextBoolean() ? " b" + any + " b" + forward + " " : " b" + forward + " b" + any + " ");
            }
        }
        return text.toString();
    }

    private static final String[] OPS = {"+", "-", "*", "/", "%", "&", "|", "^", "<<", ">>", "<", "<=", "==", "!="};

    private static String row(Random random, int registers) {
        String set = "v" + random.nextInt(registers) + "=";
        String one = "v" + random.nextInt(registers);
        String two = random.nextInt(4) == 0 ? Integer.toString(random.nextInt(9)) : "v" + random.nextInt(registers);
        return switch (random.nextInt(8)) {
            case 0 -> set + "in ";
            case 1 -> set + one + " ";
            case 2 -> set + random.nextInt(5) + " ";
            case 3 -> "show " + one + " ";
            default -> {
                String op = OPS[random.nextInt(OPS.length)];
                boolean divides = op.equals("/") || op.equals("%");
                yield set + one + op + (divides && random.nextInt(10) != 0 ? "7" : two) + " ";
            }
        };
    }
}
