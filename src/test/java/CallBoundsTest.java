import java.util.NoSuchElementException;
import java.util.function.Supplier;

/** The boundary cases of the calls, promise by promise, and that a refused call leaves all as it was. */
public final class CallBoundsTest extends Checks {
    private CallBoundsTest() {
    }

    public static void main(String[] args) {
        promise1NoProgramInputEmpty();
        promise2MoreThan8192();
        promise2HighestFirst();
        promise3NotZeroToItsLength();
        promise4TheTapeEmptyThen();
        promise5WhatIsLeftOfLessGoes();
        promise6States();
        promise6Limits();
        promise6RowsAndPhis();
        promise7AnotherNumber();
        promise7NoProgramThatIsSsa();
        promise8States();
        promise8Limits();
        promise8Blocks();
        promise9Fuel();
        promise9NoProgram();
        promise10Told();
        promise11ShowedNotSoMany();
        promise12NoneOrOthers();
        promise12GreatestNumberLive();
        promise12ReasonResultTape();
        promise13Blocks();
        promise13Exceptions();
        promise14List();
        promise15Word();
        resultIsTheLatestListing();
        theFirstExceptionThatFits();
        usedOnesAnswerAsNewOnes();
        askedOnesAnswerAsOthers();
        finish();
    }

    /** Objects in each state, with a tape, an input, a result and a run, so that a change of any of them shows. */
    private static final String[] STATES = {"new", "none", "plain", "ssa", "coloured"};

    private static SsaForge inState(String state) {
        SsaForge x = new SsaForge();
        if (state.equals("new")) {
            return x;
        }
        Call.giveInput(x, 5, -6);
        Call.read(x, "b0: v1 = in show v1 v2 = v1 jump b1 b1: v3 = v2 * 2 v1 = v1 - 1 if v1 b1 b2 b2: show v3 ret v1 b3: jump b1");
        x.list();
        x.run(100);
        if (state.equals("ssa") || state.equals("coloured")) {
            x.ssa();
        }
        if (state.equals("coloured")) {
            x.pass(7);
        }
        if (state.equals("none")) {
            Call.read(x, "b0: jump b5");
        }
        x.feed(0x62303a72, 0x65742031, 3, 4, 5);
        x.end(18);
        return x;
    }

    private static final int LEAST = Integer.MIN_VALUE;
    private static final int GREATEST = Integer.MAX_VALUE;

    // ---- promises 1 to 5

    /** "No PROGRAM, INPUT empty." */
    private static void promise1NoProgramInputEmpty() {
        counts("a new object", new SsaForge(), -1, 0, 0, 0, 0, 0, 0, 0);
        SsaForge x = new SsaForge();
        due("no ints", 0, x::input);
        SsaForge y = with("b0: v1 = in show v1 ret v1");
        runs("an empty input", y, 10, 0, 0, 1, 3, 0);
        SsaForge used = with("b0: v1 = in ret v1");
        Call.giveInput(used, 9);
        counts("another new object", new SsaForge(), -1, 0, 0, 0, 0, 0, 0, 0);
        runs("the used one has its own input", used, 10, 0, 9);
        runs("which the other does not see", y, 10, 0, 0, 1, 3, 0);
    }

    /** "IndexOutOfBoundsException: it would have more than 8192." */
    private static void promise2MoreThan8192() {
        for (int kept : new int[] {0, 1, 12, 19}) {
            SsaForge x = withTape(8160 + kept);
            if (kept <= 12) {
                due("the last that fits", 8180 + kept, () -> x.feed(1, 2, 3, 4, 5));
            }
            refused("one too many", IndexOutOfBoundsException.class, () -> {
                x.feed(1, 2, 3, 4, 5);
                x.feed(1, 2, 3, 4, 5);
                return 0;
            });
        }
        SsaForge x = withTape(8172);
        due("just 8192", 8192, () -> x.feed(1, 2, 3, 4, 5));
        SsaForge y = withTape(8173);
        refused("8193", IndexOutOfBoundsException.class, () -> y.feed(1, 2, 3, 4, 5));
        leavesAll("8193", IndexOutOfBoundsException.class, () -> withTape(8173), z -> z.feed(1, 2, 3, 4, 5));
        leavesAll("a full tape", IndexOutOfBoundsException.class, () -> withTape(8192), z -> z.feed(1, 2, 3, 4, 5));
        SsaForge u = withTape(8192);
        refused("full", IndexOutOfBoundsException.class, () -> u.feed(1, 2, 3, 4, 5));
        due("end makes room", 8172, () -> u.end(8172));
        due("full again", 8192, () -> u.feed(1, 2, 3, 4, 5));
        due("text makes room", 0, u::text);
        due("the first again", 20, () -> u.feed(1, 2, 3, 4, 5));
    }

    /** A tape of so many bytes, the k-th of which is k with its last bits. */
    private static SsaForge withTape(int length) {
        SsaForge x = new SsaForge();
        byte[] bytes = new byte[length];
        for (int i = 0; i < length; i++) {
            bytes[i] = (byte) (i * 7 + 1);
        }
        Call.feedBytes(x, bytes);
        due("tape", length, () -> x.count(7));
        return x;
    }

    /** "20 bytes, five times four, the highest of each first" */
    private static void promise2HighestFirst() {
        SsaForge x = with("b0: v1 = in v2 = in v3 = in v4 = in v5 = in show v1 show v2 show v3 show v4 show v5 ret 0");
        due("twenty", 20, () -> x.feed(LEAST, GREATEST, -1, 0x01020304, 0x80ff7f00));
        due("five", 5, x::input);
        due("run", 0, () -> x.run(20));
        int[] ints = {LEAST, GREATEST, -1, 0x01020304, 0x80ff7f00};
        for (int i = 0; i < 5; i++) {
            int n = i;
            due("int " + i, ints[i], () -> x.shown(n));
        }
    }

    /** "IllegalArgumentException: n is not 0 to its length." */
    private static void promise3NotZeroToItsLength() {
        SsaForge x = new SsaForge();
        due("0 of 0", 0, () -> x.end(0));
        refused("1 of 0", IllegalArgumentException.class, () -> x.end(1));
        for (int n : new int[] {-1, 21, LEAST, GREATEST}) {
            leavesAll("end " + n, IllegalArgumentException.class, () -> withTape(20), y -> y.end(n));
        }
        due("its length", 20, () -> withTape(20).end(20));
        due("one less", 19, () -> withTape(20).end(19));
        due("nothing", 0, () -> withTape(20).end(0));
        SsaForge z = withTape(8192);
        refused("8193", IllegalArgumentException.class, () -> z.end(8193));
        due("8192", 8192, () -> z.end(8192));
        due("0", 0, () -> z.end(0));
        refused("what is gone does not come back", IllegalArgumentException.class, () -> z.end(1));
        SsaForge u = withTape(20);
        u.end(4);
        u.feed(1, 2, 3, 4, 5);
        due("the first bytes are kept, the others gone", 24, () -> u.count(7));
        due("ints", 6, u::input);
        Call.read(u, "b0: v1 = in v2 = in show v1 ret v2");
        runs("them", u, 9, 0, 1);
        due("the first bytes", 0x01080f16, () -> u.shown(0));
    }

    /** "The TAPE, empty then, is read: -1, or the PLACE where it is WRONG." */
    private static void promise4TheTapeEmptyThen() {
        SsaForge x = new SsaForge();
        due("an empty tape", 0, x::text);
        due("its reason", 1, () -> x.count(5));
        Call.feedBytes(x, Call.latin("b0: ret 1"));
        due("right", -1, x::text);
        due("empty then", 0, () -> x.count(7));
        due("the tape is read once", 0, x::text);
        due("so there is none", -1, () -> x.count(0));
        Call.feedBytes(x, Call.latin("b0: ret 1 ?"));
        due("wrong", 10, x::text);
        due("empty then, too", 0, () -> x.count(7));
        Call.feedBytes(x, Call.latin("b0: ret 1?"));
        x.end(9);
        due("what end has cut is not read", -1, x::text);
    }

    /** "four bytes an int, the highest first; what is left of less goes: how many ints" */
    private static void promise5WhatIsLeftOfLessGoes() {
        for (int length = 0; length <= 12; length++) {
            SsaForge x = withTape(length);
            int ints = length / 4;
            due("ints of " + length, ints, x::input);
            due("the tape is empty", 0, () -> x.count(7));
            Call.read(x, "b0: v1 = in v2 = in v3 = in v4 = in show v1 show v2 show v3 ret v4");
            runs("run", x, 20, 0, 0, 3, 8, ints);
            int[] due = {0x01080f16, 0x1d242b32, 0x3940474e};
            for (int i = 0; i < 3; i++) {
                int n = i;
                due("int " + i, i < ints ? due[i] : 0, () -> x.shown(n));
            }
        }
        due("a full tape", 2048, () -> withTape(8192).input());
        due("one byte less", 2047, () -> withTape(8191).input());
        SsaForge y = with("b0: v1 = in ret v1");
        Call.giveInput(y, 7, 8);
        due("an empty one takes its place", 0, y::input);
        runs("nothing is left", y, 9, 0, 0, 0, 2, 0);
        // what was left of less is not there for the next one
        SsaForge z = withTape(7);
        z.input();
        z.feed(9, 8, 7, 6, 5);
        due("five", 5, z::input);
        Call.read(z, "b0: v1 = in ret v1");
        runs("from the first on", z, 9, 0, 9);
        SsaForge u = with("b0: jump b1 b1: v1 = in show v1 jump b1");
        byte[] many = new byte[8192];
        many[8191] = 3;
        many[2047] = 4;
        Call.feedBytes(u, many);
        u.input();
        runs("512 are shown", u, 100000, 5, 0, 512, 1 + 3 * 512 + 2, 513);
        due("the 512th", 4, () -> u.shown(511));
    }

    // ---- promise 6

    /** "IllegalStateException: there is no PROGRAM, or it is not PLAIN." */
    private static void promise6States() {
        for (String state : new String[] {"new", "none", "ssa", "coloured"}) {
            leavesAll("ssa of " + state, IllegalStateException.class, () -> inState(state), SsaForge::ssa);
        }
        SsaForge x = inState("plain");
        due("plain", 1, x::ssa);
        due("form", 1, () -> x.count(0));
        due("phis", 1, () -> x.count(3));
        SsaForge y = inState("coloured");
        y.plain();
        due("plain again", 1, y::ssa);
    }

    /** "ArithmeticException: more than 1000 registers would be set" */
    private static void promise6Limits() {
        String text = Texts.knots(24, 38, "");
        SsaForge x = inSsa(text);
        int set = x.pass(6);
        String full = Texts.knots(24, 38, repeat(1000 - set, "v199=1"));
        SsaForge y = with(full);
        due("1000 registers", x.count(3), y::ssa);
        due("all are set", 1000, () -> y.pass(6));
        String more = Texts.knots(24, 38, repeat(1001 - set, "v199=1"));
        leavesAll("1001 registers", ArithmeticException.class, () -> rich(more), SsaForge::ssa);
        // b1 is not reached, so that in ssa all others would have other numbers
        leavesAll("1001 registers and a block", ArithmeticException.class, () -> rich(Texts.withIdleBlock(more)), SsaForge::ssa);
        // shows set nothing, and blocks that are not reached are dropped
        SsaForge z = with(Texts.knots(24, 38, repeat(1000 - set, "v199=1") + repeat(20, "show 1 ")));
        due("shows do not count", x.count(3), z::ssa);
        SsaForge u = with(full + " b26:" + repeat(20, "v1=1 ") + "ret 1");
        due("blocks that are not reached do not count", x.count(3), u::ssa);
        // a row v = 0 counts, too
        String zero = Texts.knots(24, 38, repeat(1000 - set, "v199=1") + "show v198 ");
        leavesAll("a row v = 0 more", ArithmeticException.class, () -> rich(zero), SsaForge::ssa);
    }

    /**
     * "it would have more than 2000 ROWS and PHIS": all but the shows, of which a text has 200 at most, set a register,
     * so that 1000 registers come first. As many as can be had are taken.
     */
    private static void promise6RowsAndPhis() {
        SsaForge x = inSsa(Texts.knots(24, 38, ""));
        int free = 1000 - x.pass(6);
        SsaForge y = with(Texts.knots(24, 38, repeat(free, "v199=1") + repeat(124 - free, "show 1 ")));
        due("200 rows", 200, () -> y.count(2));
        due("ssa", x.count(3), y::ssa);
        due("rows and phis", 1000 + 124 - free + 38, () -> y.count(2) + y.count(3));
    }

    /** A program with a result, a run, an input and a tape beside it. */
    private static SsaForge rich(String text) {
        SsaForge x = new SsaForge();
        Call.giveInput(x, 1, 2, 3);
        Call.read(x, "b0: v1 = in show v1 ret 4");
        x.list();
        x.run(9);
        Call.read(x, text);
        asked(x);
        x.feed(1, 2, 3, 4, 5);
        return x;
    }

    private static SsaForge richSsa(String text) {
        SsaForge x = rich(text);
        x.ssa();
        return x;
    }

    // ---- promise 7

    /** "IllegalArgumentException: another number." */
    private static void promise7AnotherNumber() {
        for (String state : STATES) {
            for (int k : new int[] {0, 8, -1, LEAST, GREATEST}) {
                leavesAll("pass " + k + " of " + state, IllegalArgumentException.class, () -> inState(state), x -> x.pass(k));
            }
        }
        for (int k = 1; k <= 7; k++) {
            int pass = k;
            SsaForge x = inState("ssa");
            check("pass " + k, Boolean.toString(Call.answer(() -> x.pass(pass)).startsWith("throws")), "false");
            due("form behind pass " + k, k == 7 ? 2 : 1, () -> x.count(0));
        }
    }

    /** "IllegalStateException: there is no PROGRAM that is SSA." */
    private static void promise7NoProgramThatIsSsa() {
        for (String state : new String[] {"new", "none", "plain", "coloured"}) {
            for (int i = 1; i <= 7; i++) {
                int k = i;
                leavesAll("pass " + k + " of " + state, IllegalStateException.class, () -> inState(state), x -> x.pass(k));
            }
        }
    }

    // ---- promise 8

    /** "IllegalStateException: there is no PROGRAM that is SSA or COLOURED." */
    private static void promise8States() {
        for (String state : new String[] {"new", "none", "plain"}) {
            leavesAll("plain of " + state, IllegalStateException.class, () -> inState(state), SsaForge::plain);
        }
        for (String state : new String[] {"ssa", "coloured"}) {
            SsaForge x = inState(state);
            check("plain of " + state, Boolean.toString(Call.answer(x::plain).startsWith("throws")), "false");
            due("form", 0, () -> x.count(0));
            due("no phis", 0, () -> x.count(3));
        }
    }

    /** "ArithmeticException: it would have more than 2000 ROWS" */
    private static void promise8Limits() {
        SsaForge x = inSsa(Texts.knots(25, 38, ""));
        x.plain();
        int room = 2000 - x.count(2);
        SsaForge y = inSsa(Texts.knots(25, 38, repeat(room, "show 1 ")));
        int rows = y.count(2);
        due("rows that came", 2000 - rows, y::plain);
        due("2000 rows", 2000, () -> y.count(2));
        String more = Texts.knots(25, 38, repeat(room + 1, "show 1 "));
        leavesAll("2001 rows", ArithmeticException.class, () -> richSsa(more), SsaForge::plain);
        SsaForge z = richSsa(more);
        refused("refused", ArithmeticException.class, z::plain);
        due("the form stays", 1, () -> z.count(0));
        int shows = room + 1 + 38;
        int set = z.count(2) + z.count(3) - shows;
        due("passes go on", set, () -> z.pass(6));
        refused("refused again", ArithmeticException.class, z::plain);
        z.end(0);
        Call.read(z, Texts.knots(25, 38, repeat(room, "show 1 ")));
        z.ssa();
        due("one row less", 2000 - rows, z::plain);
        check("what was left of the refused one is not seen", Call.listing(z), Call.listing(y));
        SsaForge u = richSsa(more);
        u.pass(7);
        refused("coloured", IllegalStateException.class, () -> u.pass(7));
        check("fewer moves then", Boolean.toString(Call.answer(u::plain).startsWith("throws")), "false");
        // the row that does not fit is a move, or the one that keeps a register of a ring
        SsaForge w = inSwaps(0);
        w.plain();
        int free = 2000 - w.count(2);
        SsaForge t = inSwaps(free);
        t.plain();
        due("2000 rows with rings", 2000, () -> t.count(2));
        for (int i = 1; i <= 4; i++) {
            int over = i;
            leavesAll("rings, too many by " + i, ArithmeticException.class, () -> inSwaps(free + over), SsaForge::plain);
        }
        // with most moves in new blocks at the end, and with all of them in blocks that are there
        leavesAll("in new blocks", ArithmeticException.class, () -> richSsa(Texts.wide(100)), SsaForge::plain);
        leavesAll("in old blocks", ArithmeticException.class, () -> richSsa(Texts.star(70, 0)), SsaForge::plain);
    }

    /**
     * "or 300 blocks": a text has 60, with two ways each at most, and ways are split once, so that there are never more
     * than 180. Here b1 to b57 have two ways that are split, and b0 has one.
     */
    private static void promise8Blocks() {
        SsaForge x = inSsa(Texts.rungs());
        due("60 blocks", 60, () -> x.count(1));
        x.plain();
        due("all that can come", 60 + 2 * 57 + 1, () -> x.count(1));
        x.ssa();
        x.pass(2);
        x.plain();
        due("not one more", 60 + 2 * 57 + 1, () -> x.count(1));
        refused("b175", NoSuchElementException.class, () -> x.block(175, 0));
        due("b174", 1, () -> x.block(174, 1));
    }

    private static SsaForge inSwaps(int shows) {
        SsaForge x = inSsa(Texts.swaps(22, shows));
        x.pass(2);
        return x;
    }

    // ---- promises 9 to 11

    /** "IllegalArgumentException: fuel is not 1 to 100000." */
    private static void promise9Fuel() {
        for (String state : STATES) {
            for (int fuel : new int[] {0, 100001, -1, LEAST, GREATEST}) {
                leavesAll("fuel " + fuel + ", " + state, IllegalArgumentException.class, () -> inState(state), x -> x.run(fuel));
            }
        }
        for (String state : new String[] {"plain", "ssa", "coloured"}) {
            SsaForge x = inState(state);
            runs("the least, " + state, x, 1, 4, 0, 0, 1, 1);
            due("the greatest, " + state, 0, () -> x.run(100000));
        }
    }

    /** "IllegalStateException: there is no PROGRAM." */
    private static void promise9NoProgram() {
        for (String state : new String[] {"new", "none"}) {
            for (int fuel : new int[] {1, 100000}) {
                leavesAll("run, " + state, IllegalStateException.class, () -> inState(state), x -> x.run(fuel));
            }
        }
    }

    /** "(0, if it did not ENDS 0)", "(-1: there was none)", "IllegalArgumentException for others" */
    private static void promise10Told() {
        SsaForge x = new SsaForge();
        for (int i = 0; i <= 4; i++) {
            int what = i;
            due("no run", what == 4 ? -1 : 0, () -> x.told(what));
        }
        for (String state : STATES) {
            for (int what : new int[] {-1, 5, LEAST, GREATEST}) {
                leavesAll("told " + what + ", " + state, IllegalArgumentException.class, () -> inState(state), y -> y.told(what));
            }
        }
        SsaForge y = with("b0: v1 = in v2 = 8 / v1 show v2 jump b1 b1: v3 = v3 + 1 v4 = v3 < v1 if v4 b1 b2 b2: ret 6");
        Call.giveInput(y, 2);
        runs("ends 0", y, 100, 0, 6, 1, 11, 1);
        runs("ends 4", y, 10, 4, 0, 1, 10, 1);
        runs("ends 0 again", y, 11, 0, 6, 1, 11, 1);
        Call.giveInput(y, 0);
        runs("ends 1", y, 100, 1, 0, 0, 2, 1);
        y.input();
        runs("nothing to read", y, 100, 1, 0, 0, 2, 0);
        SsaForge z = with("b0: jump b1 b1: show 3 jump b1");
        runs("ends 5", z, 100000, 5, 0, 512, 2 + 2 * 512, 0);
        runs("an answer of 0", with("b0: ret 0"), 1, 0, 0, 0, 1, 0);
        runs("the least answer", with("b0: ret -2147483648"), 1, 0, LEAST, 0, 1, 0);
    }

    /** "IndexOutOfBoundsException: it showed not so many." */
    private static void promise11ShowedNotSoMany() {
        for (String state : STATES) {
            int shown = state.equals("new") ? 0 : 2;
            for (int i : new int[] {-1, shown, shown + 1, 511, 512, LEAST, GREATEST}) {
                leavesAll("shown " + i + ", " + state, IndexOutOfBoundsException.class, () -> inState(state), x -> x.shown(i));
            }
        }
        SsaForge x = inState("plain");
        due("the first", 5, () -> x.shown(0));
        due("the last", 10, () -> x.shown(1));
        SsaForge y = with("b0: show 1 v1 = in jump b1 b1: if v1 b2 b3 b2: show 2 ret 0 b3: ret 0");
        y.run(9);
        refused("one was shown", IndexOutOfBoundsException.class, () -> y.shown(1));
        Call.giveInput(y, 1);
        y.run(9);
        due("two were shown", 2, () -> y.shown(1));
        y.input();
        y.run(9);
        refused("one was shown by the latest", IndexOutOfBoundsException.class, () -> y.shown(1));
    }

    // ---- promise 12

    /** "-1 none", "(1 to 4: 0 without a PROGRAM)", "IllegalArgumentException for others" */
    private static void promise12NoneOrOthers() {
        for (String state : STATES) {
            for (int what : new int[] {-1, 8, LEAST, GREATEST}) {
                leavesAll("count " + what + ", " + state, IllegalArgumentException.class, () -> inState(state), x -> x.count(what));
            }
        }
        counts("new", inState("new"), -1, 0, 0, 0, 0, 0, 0, 0);
        int length = inState("plain").list();
        counts("none", inState("none"), -1, 0, 0, 0, 0, 3, length, 18);
        counts("plain", inState("plain"), 0, 4, 6, 0, 3, 0, length, 18);
        counts("ssa", inState("ssa"), 1, 3, 6, 1, 3, 0, length, 18);
        counts("coloured", inState("coloured"), 2, 3, 6, 1, 3, 0, length, 18);
        SsaForge x = inState("coloured");
        x.plain();
        due("plain again", 0, () -> x.count(0));
    }

    private static void peak(String text, int plain, int ssa) {
        SsaForge x = with(text);
        due("live at once in " + text, plain, () -> x.count(4));
        x.ssa();
        due("live at once in ssa of " + text, ssa, () -> x.count(4));
        due("colours of " + text, ssa, () -> x.pass(7));
    }

    /** "(in front of a ROW or END, behind all PHIS; registers that are set .. count there, too, as LIVE behind it)" */
    private static void promise12GreatestNumberLive() {
        peak("b0: ret 1", 0, 0);
        peak("b0: show 1 ret 1", 0, 0);
        peak("b0: ret v1", 1, 1);
        peak("b0: v1 = 2 ret 1", 1, 1);
        peak("b0: v1 = 2 v2 = 3 ret 1", 1, 1);
        peak("b0: v1 = in v2 = 3 ret v1", 2, 2);
        peak("b0: v1 = in v2 = 3 ret v2", 1, 1);
        peak("b0: v1 = in v2 = v1 + v1 ret v2", 1, 1);
        peak("b0: v1 = in v2 = in v1 = v1 + v2 ret v1", 2, 2);
        peak("b0: v1 = in v2 = in v3 = v1 + v2 show v1 ret v3", 2, 2);
        peak("b0: v1 = in v2 = in v3 = v1 + v2 show v1 show v2 ret v3", 3, 3);
        peak("b0: v1 = in v2 = in v1 = v1 + v2 v0 = 5 v1 = v1 + v0 ret v1", 2, 2);
        peak("b0: if v1 b1 b2 b1: ret v2 b2: ret v3", 3, 3);
        peak("b0: v1 = in v2 = 8 if v1 b1 b2 b1: v2 = 9 jump b2 b2: ret v2", 2, 2);
        peak("b0: v1 = 1 v2 = 2 jump b1 b1: v3 = v1 v1 = v2 v2 = v3 jump b1", 2, 2);
        peak("b0: v1 = 1 v2 = 2 jump b1 b1: v3 = 7 v4 = v1 v1 = v2 v2 = v4 jump b1", 3, 3);
        SsaForge x = with("b0: ret 0 b1: v1 = v2 + v3 ret v4");
        due("blocks that are not reached, too", 3, () -> x.count(4));
        SsaForge y = inSsa("b0: v1 = in if v1 b1 b2 b1: v2 = in v3 = in v4 = in jump b2 b2: if 0 b3 b4 b3: show v2 show v3 ret v4 "
                + "b4: ret 0");
        y.pass(1);
        due("phis that nothing uses", 0, () -> y.block(2, 3));
        due("count behind all of them", 3, () -> y.count(4));
        SsaForge z = inSsa("b0: v1 = in v2 = 1 v3 = 2 v4 = 3 if v1 b1 b2 b1: v2 = 4 v3 = 5 v4 = 6 jump b2 b2: if 0 b3 b4 b3: show v2 "
                + "show v3 ret v4 b4: ret 0");
        due("six rows, an if and a block", 8, () -> z.pass(1));
        due("phis of numbers, which nothing uses", 0, () -> z.block(2, 3));
        due("they alone are there at once", 3, () -> z.count(4));
        due("so many colours", 3, () -> z.pass(7));
    }

    /** "5: REASON of the latest text; 6: bytes of RESULT; 7: bytes of the TAPE" */
    private static void promise12ReasonResultTape() {
        SsaForge x = new SsaForge();
        due("no text yet", 0, () -> x.count(5));
        String[] texts = {"?", "b1: ret 1", "b0: jump b0", "b0:" + repeat(201, "show 1 ") + "ret 1", "b0: ret 1"};
        for (int i = 0; i < texts.length; i++) {
            Call.read(x, texts[i]);
            due("reason", i == 4 ? 0 : i + 1, () -> x.count(5));
        }
        due("no listing yet", 0, () -> x.count(6));
        due("a listing", 10, x::list);
        due("its bytes", 10, () -> x.count(6));
        x.feed(1, 2, 3, 4, 5);
        due("bytes of the tape", 20, () -> x.count(7));
        x.input();
        due("an empty tape", 0, () -> x.count(7));
        due("input has no reason", 0, () -> x.count(5));
    }

    // ---- promise 13

    /** "(-1 of b0, -2 if it is not REACHED)", "-1 without one" */
    private static void promise13Blocks() {
        SsaForge x = inState("plain");
        blocks("idom", x, 0, -1, 0, 1, -2);
        blocks("preds", x, 1, 0, 3, 1, 0);
        blocks("frontier", x, 2, 0, 1, 0, 0);
        blocks("live", x, 3, 0, 2, 2, 2);
        blocks("loop", x, 4, -1, 1, -1, -1);
        SsaForge y = inState("ssa");
        blocks("idom of ssa", y, 0, -1, 0, 1);
        blocks("preds of ssa", y, 1, 0, 2, 1);
        blocks("frontier of ssa", y, 2, 0, 1, 0);
        blocks("live of ssa", y, 3, 0, 2, 2);
        blocks("loop of ssa", y, 4, -1, 1, -1);
        SsaForge z = inState("coloured");
        blocks("idom of colours", z, 0, -1, 0, 1);
        blocks("live of colours", z, 3, 0, 2, 2);
        SsaForge u = with("b0: ret 0");
        for (int what = 0; what <= 4; what++) {
            int kind = what;
            due("b0 alone", what == 0 || what == 4 ? -1 : 0, () -> u.block(0, kind));
        }
    }

    /** "IllegalArgumentException: what is none of these. NoSuchElementException: no such block." */
    private static void promise13Exceptions() {
        for (String state : STATES) {
            for (int what : new int[] {-1, 5, LEAST, GREATEST}) {
                for (int b : new int[] {0, -1, 300}) {
                    leavesAll("block " + b + " " + what + ", " + state, IllegalArgumentException.class, () -> inState(state),
                            x -> x.block(b, what));
                }
            }
            int blocks = inState(state).count(1);
            for (int what = 0; what <= 4; what++) {
                int kind = what;
                for (int b : new int[] {-1, blocks, blocks + 1, 300, LEAST, GREATEST}) {
                    leavesAll("block " + b + " " + what + ", " + state, NoSuchElementException.class, () -> inState(state),
                            x -> x.block(b, kind));
                }
            }
            if (blocks > 0) {
                due("the last one", blocks == 4 ? -2 : 1, () -> inState(state).block(blocks - 1, 0));
            }
        }
        SsaForge y = with(each(60, i -> "b" + i + ":jump b" + (i < 59 ? i + 1 : 1) + "\n"));
        due("b59", 58, () -> y.block(59, 0));
        refused("b60", NoSuchElementException.class, () -> y.block(60, 0));
    }

    // ---- promises 14 and 15

    /** "IllegalStateException: there is no PROGRAM, or more than 65536 bytes." */
    private static void promise14List() {
        for (String state : new String[] {"new", "none"}) {
            leavesAll("list, " + state, IllegalStateException.class, () -> inState(state), SsaForge::list);
        }
        due("the shortest", 10, () -> with("b0:ret 1").list());
        String just = Texts.listedAs(65536);
        String more = Texts.listedAs(65537);
        SsaForge x = richSsa(just);
        due("65536 bytes", 65536, x::list);
        due("all kept", 65536, () -> x.count(6));
        due("the last", 0x0a00000000000000L, () -> x.word(65535));
        refused("none behind it", IndexOutOfBoundsException.class, () -> x.word(65536));
        leavesAll("65537 bytes", IllegalStateException.class, () -> richSsa(more), SsaForge::list);
        SsaForge y = richSsa(more);
        y.pass(7);
        check("colours make it short enough", Boolean.toString(Call.answer(y::list).startsWith("throws")), "false");
    }

    /** "8 bytes of RESULT from i on, the highest first, zeros behind its end"; "i is none of its bytes" */
    private static void promise15Word() {
        SsaForge x = with("b0:ret 1");
        x.list();
        byte[] bytes = Call.latin("b0:\nret 1\n");
        for (int i = 0; i < bytes.length; i++) {
            int from = i;
            long due = 0;
            for (int k = i; k < i + 8; k++) {
                due = due << 8 | (k < bytes.length ? bytes[k] : 0);
            }
            due("word " + i, due, () -> x.word(from));
        }
        for (String state : STATES) {
            int length = inState(state).count(6);
            for (int i : new int[] {-1, length, length + 1, 4096, 65535, 65536, LEAST, GREATEST}) {
                leavesAll("word " + i + ", " + state, IndexOutOfBoundsException.class, () -> inState(state), y -> y.word(i));
            }
        }
        // a shorter listing behind a longer one: what stood there is not seen
        SsaForge y = with("b0: v1 = 1 v2 = 2 v3 = 3 ret v1");
        y.list();
        Call.read(y, "b0: ret 1");
        y.list();
        due("zeros", 0x310a000000000000L, () -> y.word(8));
        refused("not the longer one's", IndexOutOfBoundsException.class, () -> y.word(10));
    }

    // ---- the last lines of the terms

    /** "RESULT is the latest LISTING, empty at first." */
    private static void resultIsTheLatestListing() {
        SsaForge x = with("b0: v7 = in ret v7");
        due("empty at first", 0, () -> x.count(6));
        refused("no byte", IndexOutOfBoundsException.class, () -> x.word(0));
        due("list", 19, x::list);
        long was = x.word(4);
        x.ssa();
        x.pass(1);
        x.run(9);
        due("changes of the program are not in it", was, () -> x.word(4));
        due("till the next one", 19, x::list);
        due("the next one", was - (7L << 48), () -> x.word(4));
        x.plain();
        Call.read(x, "?");
        due("a wrong text leaves it", 19, () -> x.count(6));
        refused("a refused list", IllegalStateException.class, x::list);
        due("leaves it", 19, () -> x.count(6));
    }

    /** "Of several exceptions the first that fits in the order of the heading is thrown" */
    private static void theFirstExceptionThatFits() {
        Supplier<SsaForge> none = () -> inState("none");
        leavesAll("pass", IllegalArgumentException.class, none, x -> x.pass(0));
        leavesAll("pass", IllegalStateException.class, none, x -> x.pass(1));
        leavesAll("run", IllegalArgumentException.class, none, x -> x.run(0));
        leavesAll("run", IllegalStateException.class, none, x -> x.run(1));
        leavesAll("block", IllegalArgumentException.class, none, x -> x.block(-1, 5));
        leavesAll("block", NoSuchElementException.class, none, x -> x.block(-1, 4));
        // a program that could not be brought to ssa is not plain either: the state comes first
        String more = Texts.knots(25, 38, repeat(100, "show 1 "));
        leavesAll("ssa", IllegalStateException.class, () -> richSsa(more), SsaForge::ssa);
        leavesAll("plain", ArithmeticException.class, () -> richSsa(more), SsaForge::plain);
    }

    // ---- an object that has been used

    private static final String[] PROGRAMS = {
        Texts.COUNTDOWN,
        Texts.DIAMOND,
        "b0: v1 = 4 v2 = v1 + 1 if v2 b1 b2 b1: ret v2 b2: ret v1",
        "b0: v1 = in v2 = in v3 = in jump b1 b1: v4 = v1 + v2 v5 = v1 v1 = v2 v2 = v5 v6 = v4 v3 = v3 - 1 if v3 b2 b3 b2: jump b1 b3: "
                + "show v6 ret v4 b4: jump b3",
        "b0: jump b1 b1: v1 = 7 show v1 v2 = in if v2 b1 b2 b2: jump b3 b3: if v2 b4 b4 b4: ret v1",
        "b0: v9 = in v8 = 5 v7 = v9 / v8 if v9 b1 b2 b1: v8 = 6 jump b2 b2: v6 = v9 + v8 show v6 ret v7",
        "b0: v1 = in v2 = v1 if v1 b1 b2 b1: v2 = 5 if 0 b2 b3 b2: jump b4 b3: jump b4 b4: show v2 if v1 b2 b5 b5: ret v2",
        "b0: v1 = in v2 = v1 + 1 v3 = v2 * 2 jump b1 b1: v4 = v4 + 1 v5 = v1 + 7 v6 = in if v6 b1 b2 b2: show v5 jump b3 b3: ret v1",
    };

    private static final String[] STEPS = {"", "1", "12", "123", "4", "5", "15", "6", "236", "7", "12345637", "2", "27", "3", "34", "43",
        "55", "51", "155", "5515"};

    /** The steps, with all that they answer and, if it is asked for before each of them, what is known of the blocks. */
    private static String steps(SsaForge x, String program, String steps, boolean asking) {
        StringBuilder all = new StringBuilder();
        all.append(Call.read(x, program)).append(asking ? asked(x) : "").append(" ").append(x.ssa());
        for (char step : steps.toCharArray()) {
            all.append(asking ? asked(x) : "").append(" ").append(x.pass(step - '0'));
        }
        return all.toString();
    }

    private static String asked(SsaForge x) {
        StringBuilder all = new StringBuilder();
        for (int b = 0; b < x.count(1); b++) {
            for (int what = 0; what <= 4; what++) {
                all.append(" ").append(x.block(b, what));
            }
        }
        return all + " " + x.count(4);
    }

    private static String everything(SsaForge x) {
        StringBuilder all = new StringBuilder(asked(x));
        for (int what = 0; what <= 5; what++) {
            all.append(" ").append(x.count(what));
        }
        return all + "\n" + Call.listing(x) + x.run(500) + " " + x.told(0) + " " + x.told(2);
    }

    private static void alike(String what, SsaForge one, SsaForge other) {
        check(what, everything(one), everything(other));
        check(what, Call.answer(one::plain), Call.answer(other::plain));
        check(what, everything(one), everything(other));
    }

    /** What other programs and steps have left inside an object is never seen. */
    private static void usedOnesAnswerAsNewOnes() {
        for (String before : PROGRAMS) {
            for (String program : PROGRAMS) {
                SsaForge used = new SsaForge();
                for (String steps : STEPS) {
                    SsaForge fresh = new SsaForge();
                    steps(used, before, steps, true);
                    asked(used);
                    String what = program + " with " + steps + " behind " + before;
                    check(what, steps(used, program, steps, true), steps(fresh, program, steps, true));
                    alike(what, used, fresh);
                }
            }
        }
        String[] large = {Texts.wide(100), Texts.knots(20, 30, repeat(100, "v199=v199+1 ")),
            "b0: " + repeat(190, "v1=v1+1 ") + "if v1 b1 b2 b1: v1 = 5 show v1 ret 0 b2: show v1 ret 1"};
        for (String program : large) {
            SsaForge used = inSsa(program);
            String due = Call.listing(used);
            for (int i = 0; i < 9; i++) {
                Call.read(used, program);
                used.ssa();
                check("again and again", Call.listing(used), due);
            }
        }
    }

    /** Questions change nothing: what they have found out is not taken for what comes later. */
    private static void askedOnesAnswerAsOthers() {
        for (String program : PROGRAMS) {
            for (String steps : STEPS) {
                SsaForge asked = new SsaForge();
                SsaForge other = new SsaForge();
                steps(asked, program, steps, true);
                steps(other, program, steps, false);
                alike(program + " with " + steps, asked, other);
            }
        }
    }
}
