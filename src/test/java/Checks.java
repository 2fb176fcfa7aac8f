import java.util.function.Consumer;
import java.util.function.IntFunction;
import java.util.function.Supplier;

/** What the tests by hand have in common: answers that are due, calls that are refused, and what they leave as it was. */
abstract class Checks {
    private static int wrong = 0;
    private static int checked = 0;

    /** Ends the test, with exit code 1 if an answer was not the one that is due. */
    static void finish() {
        System.out.println(checked + " answers checked, " + wrong + " not as due");
        if (wrong != 0) {
            System.exit(1);
        }
    }

    static void check(String what, String got, String due) {
        checked++;
        if (!got.equals(due)) {
            wrong++;
            int from = got.length() + due.length() > 2000 ? firstDifference(got, due) : 0;
            System.out.println(shortened(what) + " answered from " + from + " on\n" + shortened(got.substring(from)) + "\ndue is\n"
                    + shortened(due.substring(from)));
        }
    }

    private static int firstDifference(String got, String due) {
        int i = 0;
        while (i < got.length() && i < due.length() && got.charAt(i) == due.charAt(i)) {
            i++;
        }
        return i;
    }

    private static String shortened(String text) {
        return text.length() > 1000 ? text.substring(0, 1000) + ".." : text;
    }

    static void due(String what, long due, Call.Question question) {
        check(what, Call.answer(question), Long.toString(due));
    }

    static void refused(String what, Class<? extends RuntimeException> due, Call.Question question) {
        check(what, Call.answer(question), "throws." + due.getSimpleName());
    }

    static void lists(String what, SsaForge x, String... lines) {
        check(what, Call.listing(x), String.join("\n", lines) + "\n");
    }

    // ---- objects

    static SsaForge with(String text) {
        SsaForge x = new SsaForge();
        due("text " + text, -1, () -> Call.read(x, text));
        return x;
    }

    static SsaForge inSsa(String text) {
        SsaForge x = with(text);
        x.ssa();
        return x;
    }

    static SsaForge coloured(String text) {
        SsaForge x = inSsa(text);
        x.pass(7);
        return x;
    }

    static void wrongText(String text, int place, int reason) {
        SsaForge x = with("b0: ret 1");
        due("wrong text " + text, place, () -> Call.read(x, text));
        due("reason of " + text, reason, () -> x.count(5));
        due("no program after " + text, -1, () -> x.count(0));
        due("tape is empty after " + text, 0, () -> x.count(7));
    }

    static void rightText(String text) {
        SsaForge x = new SsaForge();
        due("right text " + text, -1, () -> Call.read(x, text));
        due("no reason of " + text, 0, () -> x.count(5));
        due("plain is " + text, 0, () -> x.count(0));
    }

    /** Answers of one question for blocks from b0 on. */
    static void blocks(String what, SsaForge x, int kind, int... due) {
        for (int b = 0; b < due.length; b++) {
            int n = b;
            due(what + " block " + b + " " + kind, due[b], () -> x.block(n, kind));
        }
    }

    /** Answers of count from 0 on. */
    static void counts(String what, SsaForge x, int... due) {
        for (int i = 0; i < due.length; i++) {
            int n = i;
            due(what + " count " + i, due[i], () -> x.count(n));
        }
    }

    /** A run, how it ends and the first of what is told of it. */
    static void runs(String what, SsaForge x, int fuel, int ends, int... told) {
        due(what + " run " + fuel, ends, () -> x.run(fuel));
        due(what + " ended", ends, () -> x.told(4));
        for (int i = 0; i < told.length; i++) {
            int n = i;
            due(what + " told " + i, told[i], () -> x.told(n));
        }
    }

    // ---- texts

    static String repeat(int times, String text) {
        return text.repeat(times);
    }

    static String each(int times, IntFunction<String> part) {
        StringBuilder all = new StringBuilder();
        for (int i = 0; i < times; i++) {
            all.append(part.apply(i));
        }
        return all.toString();
    }

    // ---- what refused calls leave as it was

    /** What can be asked without a change: sizes, the latest run, the result. */
    static String state(SsaForge x) {
        StringBuilder all = new StringBuilder();
        for (int i = 0; i < 8; i++) {
            all.append(x.count(i)).append(" ");
        }
        for (int i = 0; i < 5; i++) {
            all.append(x.told(i)).append(" ");
        }
        for (int i = 0; i < x.told(1); i++) {
            all.append(x.shown(i)).append(" ");
        }
        for (int i = 0; i < x.count(6); i += 8) {
            all.append(x.word(i)).append(" ");
        }
        return all.toString();
    }

    static void refusedWithoutChange(
            String what, Class<? extends RuntimeException> due, SsaForge x, Call.Question question) {
        String before = state(x);
        refused(what, due, question);
        check(what + " changes nothing", state(x), before);
    }

    /**
     * Of two objects made alike, one is asked what is refused. Then all that they hold is brought to light,
     * which changes them: program, blocks, run, what steps lead to, and the tape or the input.
     */
    static void leavesAll(
            String what, Class<? extends RuntimeException> due, Supplier<SsaForge> made, Consumer<SsaForge> call) {
        for (int last = 0; last < 2; last++) {
            SsaForge one = made.get();
            SsaForge other = made.get();
            refused(what, due, () -> {
                call.accept(other);
                return 0;
            });
            boolean tape = last == 0;
            check(what + " leaves all as it was", allOf(other, tape), allOf(one, tape));
        }
    }

    private static String allOf(SsaForge x, boolean tape) {
        StringBuilder all = new StringBuilder(state(x));
        for (int b = 0; b < x.count(1); b++) {
            for (int what = 0; what < 5; what++) {
                all.append(x.block(b, what)).append(" ");
            }
        }
        all.append(afterwards(x, x::list));
        all.append(afterwards(x, () -> x.run(3000)));
        int form = x.count(0);
        all.append(afterwards(x, form == 0 ? x::ssa : x::plain));
        all.append(afterwards(x, x::list));
        all.append(tape ? tapeOf(x) : inputOf(x));
        return all.toString();
    }

    private static String afterwards(SsaForge x, Call.Question call) {
        return "\n" + Call.answer(call) + ": " + state(x);
    }

    /** The tape, all ints of which are shown by a run; zeros behind it make up for less than an int. */
    private static String tapeOf(SsaForge x) {
        if (x.count(7) <= 8172) {
            x.feed(0, 0, 0, 0, 0);
        }
        return "\n" + x.input() + ": " + inputOf(x);
    }

    private static String inputOf(SsaForge x) {
        x.end(0);
        Call.read(x, "b0: jump b1 b1: v1 = in show v1 jump b1");
        x.run(100000);
        return state(x);
    }
}
