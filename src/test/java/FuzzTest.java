import java.util.ArrayList;
import java.util.List;
import java.util.Random;

/** Random functions and random runs of calls: every answer is the one that the plain model gives. */
public final class FuzzTest {
    /** "An object is used for at most 512 calls" */
    private static final int MOST_CALLS = 512;

    private static int wrong = 0;
    private final Random random;
    private final SsaForge x = new SsaForge();
    private final Model model = new Model();
    private final List<String> told = new ArrayList<>();
    private String meaning = "";

    private FuzzTest(long seed) {
        random = new Random(seed);
    }

    public static void main(String[] args) {
        int first = args.length > 0 ? Integer.parseInt(args[0]) : 1;
        int last = args.length > 1 ? Integer.parseInt(args[1]) : 1500;
        for (int seed = first; seed <= last && wrong < 5; seed++) {
            FuzzTest test = new FuzzTest(seed);
            try {
                if (seed % 5 == 0) {
                    test.anyCalls(seed % 50 == 0 ? MOST_CALLS : 150);
                } else {
                    test.oneObject();
                }
            } catch (Stop stop) {
                wrong++;
                System.out.println("seed " + seed + ":");
                test.told.forEach(System.out::println);
            }
        }
        System.out.println(wrong == 0 ? "all answers are the model's" : wrong + " runs differ");
        if (wrong != 0) {
            System.exit(1);
        }
    }

    private static final class Stop extends RuntimeException {
        private static final long serialVersionUID = 1L;
    }

    private String same(String call, Call.Question got, Call.Question due) {
        String mine = Call.answer(got);
        String other = Call.answer(due);
        if (!mine.equals(other)) {
            told.add(call + " answered " + mine + ", due is " + other);
            throw new Stop();
        }
        return mine;
    }

    /** Calls in any order with any arguments, most of them in no state for it. */
    private void anyCalls(int calls) {
        for (int i = 0; i < calls; i++) {
            int n = random.nextInt(8) == 0 ? random.nextInt() : random.nextInt(12) - 2;
            int m = random.nextInt(9) - 2;
            switch (random.nextInt(18)) {
                case 0, 1 -> feedText();
                case 2 -> both("text", x::text, model::text);
                case 3 -> both("input", x::input, model::input);
                case 4 -> both("feed", () -> x.feed(n, m, n, m, n), () -> model.feed(n, m, n, m, n));
                case 5 -> both("end " + n, () -> x.end(n), () -> model.end(n));
                case 6, 7 -> both("ssa", x::ssa, model::ssa);
                case 8, 9, 10 -> both("pass " + n, () -> x.pass(n), () -> model.pass(n));
                case 11 -> both("plain", x::plain, model::plain);
                case 12 -> both("run " + 10 * n, () -> x.run(10 * n), () -> model.run(10 * n));
                case 13 -> both("told " + m, () -> x.told(m), () -> model.told(m));
                case 14 -> both("shown " + n, () -> x.shown(n), () -> model.shown(n));
                case 15 -> both("count " + n, () -> x.count(n), () -> model.count(n));
                case 16 -> both("block " + n + " " + m, () -> x.block(n, m), () -> model.block(n, m));
                default -> {
                    both("list", x::list, model::list);
                    both("word " + n, () -> x.word(n), () -> model.word(n));
                }
            }
        }
        look();
    }

    private void both(String call, Call.Question got, Call.Question due) {
        told.add(call + " " + same(call, got, due));
    }

    private void feedText() {
        String text = random.nextBoolean() ? nested() : program();
        if (x.count(7) + text.length() + 20 <= 8192) {
            told.add("feed " + text);
            Call.feedBytes(x, Call.latin(text));
            Call.feedBytes(model, Call.latin(text));
            if (random.nextInt(3) > 0) {
                both("text", x::text, model::text);
            }
        }
    }

    private void oneObject() {
        int texts = 1 + random.nextInt(2);
        for (int i = 0; i < texts; i++) {
            byte[] input = new byte[random.nextInt(30)];
            random.nextBytes(input);
            Call.feedBytes(x, input);
            Call.feedBytes(model, input);
            same("input", x::input, model::input);
            String text = random.nextInt(3) == 0 ? nested() : program();
            text = random.nextInt(8) == 0 ? spoilt(text) : text;
            told.add("text " + text);
            Call.feedBytes(x, Call.latin(text));
            Call.feedBytes(model, Call.latin(text));
            same("text", x::text, model::text);
            look();
            meaning = meaning(2000);
            changes();
        }
    }

    private void changes() {
        int rounds = 1 + random.nextInt(3);
        for (int round = 0; round < rounds; round++) {
            told.add("ssa " + same("ssa", x::ssa, model::ssa));
            look();
            int passes = random.nextInt(8);
            for (int i = 0; i < passes; i++) {
                int k = 1 + random.nextInt(random.nextInt(4) == 0 ? 8 : 6);
                told.add("pass " + k + " " + same("pass " + k, () -> x.pass(k), () -> model.pass(k)));
                keepsMeaning();
                if (random.nextBoolean()) {
                    look();
                }
            }
            if (random.nextInt(3) == 0) {
                colours();
            }
            told.add("plain " + same("plain", x::plain, model::plain));
            look();
            keepsMeaning();
        }
    }

    /** In this form just as many colours are needed as registers are live at one place. */
    private void colours() {
        int peak = model.count(0) == 1 ? x.count(4) : -1;
        String colours = same("pass 7", () -> x.pass(7), () -> model.pass(7));
        told.add("pass 7 " + colours);
        if (peak >= 0 && !colours.equals(Integer.toString(peak))) {
            told.add("but " + peak + " were live at one place");
            throw new Stop();
        }
        keepsMeaning();
        look();
    }

    /** What a run does, steps aside; empty if it is not known, as the fuel was too small or nothing ran. */
    private String meaning(int fuel) {
        if (model.count(0) < 0) {
            return "";
        }
        same("run " + fuel, () -> x.run(fuel), () -> model.run(fuel));
        if (x.told(4) == 4) {
            return "";
        }
        StringBuilder all = new StringBuilder();
        all.append(x.told(4)).append(" ").append(x.told(0)).append(" ").append(x.told(3)).append(":");
        for (int i = 0; i < x.told(1); i++) {
            all.append(" ").append(x.shown(i));
        }
        return all.toString();
    }

    /** Whatever is changed, a run shows and answers what it did at first. */
    private void keepsMeaning() {
        if (!meaning.isEmpty() && !meaning.equals(meaning(100000))) {
            told.add("the meaning was " + meaning + " and is " + meaning(100000));
            throw new Stop();
        }
    }

    /** Compares all that can be asked. */
    private void look() {
        String length = same("list", x::list, model::list);
        if (!length.startsWith("throws")) {
            String got = Call.listing(x);
            if (!got.equals(model.listing())) {
                told.add("list answered\n" + got + "due is\n" + model.listing());
                throw new Stop();
            }
        }
        for (int what = -1; what <= 8; what++) {
            int w = what;
            same("count " + w, () -> x.count(w), () -> model.count(w));
        }
        for (int b = -1; b <= model.count(1); b++) {
            for (int what = -1; what <= 5; what++) {
                int n = b;
                int w = what;
                same("block " + n + " " + w, () -> x.block(n, w), () -> model.block(n, w));
            }
        }
        int fuel = random.nextInt(4) == 0 ? random.nextInt(40) : 2000;
        same("run " + fuel, () -> x.run(fuel), () -> model.run(fuel));
        for (int what = -1; what <= 5; what++) {
            int w = what;
            same("told " + w, () -> x.told(w), () -> model.told(w));
        }
        for (int i = -1; i <= model.told(1); i++) {
            int n = i;
            same("shown " + n, () -> x.shown(n), () -> model.shown(n));
        }
    }

    // ---- random texts

    private static final String[] OPS = {"+", "-", "*", "/", "%", "&", "|", "^", "<<", ">>", "<", "<=", "==", "!="};
    private static final String[] NUMBERS = {"0", "1", "-1", "2", "3", "5", "31", "33", "2147483647", "-2147483648"};

    private String program() {
        boolean big = random.nextInt(400) == 0;
        int blocks = 1 + random.nextInt(big ? 60 : random.nextInt(4) == 0 ? 14 : 7);
        int registers = 1 + random.nextInt(big ? 60 : random.nextInt(3) == 0 ? 12 : 4);
        int rows = random.nextInt(5);
        StringBuilder text = new StringBuilder();
        for (int b = 0; b < blocks; b++) {
            text.append("b").append(b).append(":").append(gap());
            for (int i = random.nextInt(rows + 1); i > 0; i--) {
                text.append(row(registers)).append(gap());
            }
            text.append(end(blocks, registers)).append(gap());
        }
        return text.toString();
    }

    /** Ifs and loops inside one another, as people write them, with much that can be folded, moved and joined. */
    private String nested() {
        List<StringBuilder> blocks = new ArrayList<>();
        blocks.add(new StringBuilder());
        int registers = 2 + random.nextInt(6);
        int last = nest(blocks, 0, registers, 3);
        blocks.get(last).append(random.nextBoolean() ? "ret v0" : "show v1 show v0 ret v1");
        StringBuilder text = new StringBuilder();
        for (int b = 0; b < blocks.size(); b++) {
            text.append("b").append(b).append(": ").append(blocks.get(b)).append("\n");
        }
        return text.toString();
    }

    /** Goes on in a block; answers the block in which what comes next stands. */
    private int nest(List<StringBuilder> blocks, int from, int registers, int depth) {
        int at = from;
        for (int i = 1 + random.nextInt(3); i > 0; i--) {
            int kind = depth == 0 || blocks.size() > 12 ? 0 : random.nextInt(4);
            if (kind < 2) {
                blocks.get(at).append(row(registers)).append("\n");
                continue;
            }
            int first = blocks.size();
            for (int k = 0; k < 3; k++) {
                blocks.add(new StringBuilder());
            }
            if (kind == 2) {
                blocks.get(at).append("if ").append(operand(registers)).append(" b").append(first);
                blocks.get(at).append(" b").append(first + 1).append("\n");
                blocks.get(nest(blocks, first, registers, depth - 1)).append("jump b").append(first + 2).append("\n");
                blocks.get(nest(blocks, first + 1, registers, depth - 1)).append("jump b").append(first + 2).append("\n");
            } else {
                String counter = "v" + (100 + first);
                blocks.get(at).append(counter).append(" = ").append(random.nextInt(4)).append(" jump b").append(first);
                blocks.get(first).append("if ").append(counter).append(" b").append(first + 1);
                blocks.get(first).append(" b").append(first + 2);
                int end = nest(blocks, first + 1, registers, depth - 1);
                blocks.get(end).append(counter).append(" = ").append(counter).append(" - 1 jump b").append(first);
            }
            at = first + 2;
        }
        return at;
    }

    private String gap() {
        return switch (random.nextInt(12)) {
            case 0 -> "\r\n";
            case 1 -> "\t ; a remark - with v1 = 3\n";
            default -> "\n";
        };
    }

    private String register(int registers) {
        return "v" + random.nextInt(registers);
    }

    private String operand(int registers) {
        return random.nextInt(4) == 0 ? NUMBERS[random.nextInt(NUMBERS.length)] : register(registers);
    }

    private String row(int registers) {
        int kind = random.nextInt(12);
        if (kind == 0) {
            return "show " + operand(registers);
        }
        String set = register(registers) + " = ";
        if (kind == 1) {
            return set + "in";
        }
        if (kind < 5) {
            return set + operand(registers);
        }
        String op = OPS[random.nextInt(OPS.length)];
        if (op.length() == 1 && "/%".contains(op) && random.nextInt(2) == 0) {
            return set + operand(registers) + " " + op + " " + NUMBERS[1 + random.nextInt(9)];
        }
        return set + operand(registers) + " " + op + " " + operand(registers);
    }

    private String end(int blocks, int registers) {
        int kind = random.nextInt(9);
        if (blocks == 1 || kind == 0) {
            return "ret " + operand(registers);
        }
        if (kind < 4) {
            return "jump " + goal(blocks);
        }
        return "if " + operand(registers) + " " + goal(blocks) + " " + goal(blocks);
    }

    private String goal(int blocks) {
        return "b" + (1 + random.nextInt(blocks - 1));
    }

    private static final String[] SPOILS = {"", "-", "=", "==", "v", "v200", "v199", "b60", "b0", "b1", "b2", ":", "in",
        "show", "inn", "phi", "(", "2147483648", "-2147483648", "-2147483649", "!", ">", "A", ";", "\u00ff", "ret 1", "jump b1",
        "007", "v007", " - 5", "-5", "<=", "<<="};

    private String spoilt(String text) {
        String now = text;
        for (int i = 1 + random.nextInt(2); i > 0; i--) {
            int from = random.nextInt(now.length() + 1);
            int to = Math.min(now.length(), from + random.nextInt(4));
            now = now.substring(0, from) + SPOILS[random.nextInt(SPOILS.length)] + now.substring(to);
        }
        return random.nextInt(5) == 0 ? now.substring(0, random.nextInt(now.length() + 1)) : now;
    }
}
