import java.util.ArrayList;
import java.util.List;
import java.util.Random;

/** Random functions and random runs of calls: every answer is the one that the plain model gives. */
public final class FuzzTest {
    private static int wrong = 0;
    private final Random random;
    private final SsaForge x = new SsaForge();
    private final Model model = new Model();
    private final List<String> told = new ArrayList<>();

    private FuzzTest(long seed) {
        random = new Random(seed);
    }

    public static void main(String[] args) {
        int first = args.length > 0 ? Integer.parseInt(args[0]) : 1;
        int last = args.length > 1 ? Integer.parseInt(args[1]) : 1500;
        for (int seed = first; seed <= last && wrong < 5; seed++) {
            FuzzTest test = new FuzzTest(seed);
            try {
                test.oneObject();
            } catch (Stop stop) {
                wrong++;
                System.out.println("seed " + seed + ":");
                test.told.forEach(System.out::println);
            }
        }
        System.out.println(wrong == 0 ? "all answers are the model's" : wrong + " runs differ");
        if (wrong != 0) {
            System.exit(1);
        }
    }

    private static final class Stop extends RuntimeException {
        private static final long serialVersionUID = 1L;
    }

    private String same(String call, Call.Question got, Call.Question due) {
        String mine = Call.answer(got);
        String other = Call.answer(due);
        if (!mine.equals(other)) {
            told.add(call + " answered " + mine + ", due is " + other);
            throw new Stop();
        }
        return mine;
    }

    private void oneObject() {
        int texts = 1 + random.nextInt(2);
        for (int i = 0; i < texts; i++) {
            byte[] input = new byte[random.nextInt(30)];
            random.nextBytes(input);
            Call.feedBytes(x, input);
            Call.feedBytes(model, input);
            same("input", x::input, model::input);
            String text = random.nextInt(8) == 0 ? spoilt(program()) : program();
            told.add("text " + text);
            Call.feedBytes(x, Call.latin(text));
            Call.feedBytes(model, Call.latin(text));
            same("text", x::text, model::text);
            look();
            changes();
        }
    }

    private void changes() {
        int rounds = 1 + random.nextInt(3);
        for (int round = 0; round < rounds; round++) {
            told.add("ssa " + same("ssa", x::ssa, model::ssa));
            look();
            int passes = random.nextInt(8);
            for (int i = 0; i < passes; i++) {
                int k = 1 + random.nextInt(random.nextInt(4) == 0 ? 8 : 6);
                told.add("pass " + k + " " + same("pass " + k, () -> x.pass(k), () -> model.pass(k)));
                if (random.nextBoolean()) {
                    look();
                }
            }
            if (random.nextInt(3) == 0) {
                told.add("pass 7 " + same("pass 7", () -> x.pass(7), () -> model.pass(7)));
                look();
            }
            told.add("plain " + same("plain", x::plain, model::plain));
            look();
        }
    }

    /** Compares all that can be asked. */
    private void look() {
        String length = same("list", x::list, model::list);
        if (!length.startsWith("throws")) {
            String got = Call.listing(x);
            if (!got.equals(model.listing())) {
                told.add("list answered\n" + got + "due is\n" + model.listing());
                throw new Stop();
            }
        }
        for (int what = -1; what <= 8; what++) {
            int w = what;
            same("count " + w, () -> x.count(w), () -> model.count(w));
        }
        for (int b = -1; b <= model.count(1); b++) {
            for (int what = -1; what <= 5; what++) {
                int n = b;
                int w = what;
                same("block " + n + " " + w, () -> x.block(n, w), () -> model.block(n, w));
            }
        }
        int fuel = random.nextInt(4) == 0 ? random.nextInt(40) : 2000;
        same("run " + fuel, () -> x.run(fuel), () -> model.run(fuel));
        for (int what = -1; what <= 5; what++) {
            int w = what;
            same("told " + w, () -> x.told(w), () -> model.told(w));
        }
        for (int i = -1; i <= model.told(1); i++) {
            int n = i;
            same("shown " + n, () -> x.shown(n), () -> model.shown(n));
        }
    }

    // ---- random texts

    private static final String[] OPS = {"+", "-", "*", "/", "%", "&", "|", "^", "<<", ">>", "<", "<=", "==", "!="};
    private static final String[] NUMBERS = {"0", "1", "-1", "2", "3", "5", "31", "33", "2147483647", "-2147483648"};

    private String program() {
        int blocks = 1 + random.nextInt(random.nextInt(4) == 0 ? 14 : 7);
        int registers = 1 + random.nextInt(random.nextInt(3) == 0 ? 12 : 4);
        int rows = random.nextInt(5);
        StringBuilder text = new StringBuilder();
        for (int b = 0; b < blocks; b++) {
            text.append("b").append(b).append(":").append(gap());
            for (int i = random.nextInt(rows + 1); i > 0; i--) {
                text.append(row(registers)).append(gap());
            }
            text.append(end(blocks, registers)).append(gap());
        }
        return text.toString();
    }

    private String gap() {
        return switch (random.nextInt(12)) {
            case 0 -> "\r\n";
            case 1 -> "\t ; a remark - with v1 = 3\n";
            default -> "\n";
        };
    }

    private String register(int registers) {
        return "v" + random.nextInt(registers);
    }

    private String operand(int registers) {
        return random.nextInt(4) == 0 ? NUMBERS[random.nextInt(NUMBERS.length)] : register(registers);
    }

    private String row(int registers) {
        int kind = random.nextInt(12);
        if (kind == 0) {
            return "show " + operand(registers);
        }
        String set = register(registers) + " = ";
        if (kind == 1) {
            return set + "in";
        }
        if (kind < 5) {
            return set + operand(registers);
        }
        String op = OPS[random.nextInt(OPS.length)];
        if (op.length() == 1 && "/%".contains(op) && random.nextInt(2) == 0) {
            return set + operand(registers) + " " + op + " " + NUMBERS[1 + random.nextInt(9)];
        }
        return set + operand(registers) + " " + op + " " + operand(registers);
    }

    private String end(int blocks, int registers) {
        int kind = random.nextInt(9);
        if (blocks == 1 || kind == 0) {
            return "ret " + operand(registers);
        }
        if (kind < 4) {
            return "jump " + goal(blocks);
        }
        return "if " + operand(registers) + " " + goal(blocks) + " " + goal(blocks);
    }

    private String goal(int blocks) {
        return "b" + (1 + random.nextInt(blocks - 1));
    }

    private static final String[] SPOILS = {"", "-", "=", "==", "v", "v200", "v199", "b60", "b0", "b1", "b2", ":", "in",
        "show", "inn", "phi", "(", "2147483648", "-2147483648", "-2147483649", "!", ">", "A", ";", "\u00ff", "ret 1", "jump b1",
        "007", "v007", " - 5", "-5", "<=", "<<="};

    private String spoilt(String text) {
        String now = text;
        for (int i = 1 + random.nextInt(2); i > 0; i--) {
            int from = random.nextInt(now.length() + 1);
            int to = Math.min(now.length(), from + random.nextInt(4));
            now = now.substring(0, from) + SPOILS[random.nextInt(SPOILS.length)] + now.substring(to);
        }
        return random.nextInt(5) == 0 ? now.substring(0, random.nextInt(now.length() + 1)) : now;
    }
}
