import java.util.NoSuchElementException;

/** The boundary cases of RUN and of WAYS with what follows: each sentence of the document that names one. */
public final class RunBoundsTest extends Checks {
    private RunBoundsTest() {
    }

    public static void main(String[] args) {
        allRegistersAreZeroFirst();
        intsWrap();
        shiftsByTheLowestFiveBits();
        comparisonsGiveOneOrZero();
        divisionsCutTowardsZero();
        theLeastByMinusOne();
        byZeroEndsTheRun();
        nextOfInput();
        theFirstGoalUnlessZero();
        eachIsAStep();
        noStepIsLeft();
        the513thShow();
        oneWayIfBothAreOne();
        notReached();
        itselfDominates();
        ownFrontier();
        loopsOfBlocks();
        liveAtAPlace();
        dropping();
        finish();
    }

    // ---- RUN

    /** "All registers are 0 first", in each run anew. */
    private static void allRegistersAreZeroFirst() {
        SsaForge x = with("b0: show v0 v0 = v0 + 7 show v199 v199 = 5 ret v0");
        for (int i = 0; i < 2; i++) {
            runs("zeros", x, 10, 0, 7, 2, 5, 0);
            due("v0", 0, () -> x.shown(0));
            due("v199", 0, () -> x.shown(1));
        }
        x.ssa();
        x.pass(7);
        x.plain();
        runs("brought back", x, 10, 0, 7, 2, 7, 0);
        due("v199 then", 0, () -> x.shown(1));
    }

    /** What an op gives, as numbers and by registers, in a run and in pass 1. */
    private static void gives(int a, String op, int b, int due) {
        SsaForge x = with("b0: v1 = " + a + " " + op + " " + b + " v2 = in v3 = in v4 = v2 " + op + " v3 show v4 ret v1");
        Call.giveInput(x, a, b);
        runs(a + op + b, x, 6, 0, due, 1, 6, 2);
        due(a + op + b + " of registers", due, () -> x.shown(0));
        x.ssa();
        due("a number", 1, () -> x.pass(1));
        lists("folded " + a + op + b, x, "b0:", "v1 = in", "v2 = in", "v3 = v1 " + op + " v2", "show v3", "ret " + due);
    }

    private static final int LEAST = Integer.MIN_VALUE;
    private static final int GREATEST = Integer.MAX_VALUE;

    /** "ints wrap" */
    private static void intsWrap() {
        gives(GREATEST, "+", 0, GREATEST);
        gives(GREATEST, "+", 1, LEAST);
        gives(GREATEST, "+", GREATEST, -2);
        gives(LEAST, "+", -1, GREATEST);
        gives(LEAST, "+", LEAST, 0);
        gives(LEAST, "-", 0, LEAST);
        gives(LEAST, "-", 1, GREATEST);
        gives(GREATEST, "-", -1, LEAST);
        gives(0, "-", LEAST, LEAST);
        gives(-1, "-", LEAST, GREATEST);
        gives(46340, "*", 46340, 2147395600);
        gives(46341, "*", 46341, -2147479015);
        gives(LEAST, "*", -1, LEAST);
        gives(GREATEST, "*", GREATEST, 1);
        gives(65536, "*", 65536, 0);
        gives(LEAST, "&", GREATEST, 0);
        gives(LEAST, "|", GREATEST, -1);
        gives(LEAST, "^", -1, GREATEST);
    }

    /** "<< >> by the lowest 5 bits, >> with the sign" */
    private static void shiftsByTheLowestFiveBits() {
        gives(1, "<<", 0, 1);
        gives(1, "<<", 31, LEAST);
        gives(1, "<<", 32, 1);
        gives(1, "<<", 33, 2);
        gives(1, "<<", -1, LEAST);
        gives(3, "<<", 31, LEAST);
        gives(5, "<<", LEAST, 5);
        gives(5, "<<", GREATEST, LEAST);
        gives(-8, ">>", 0, -8);
        gives(-8, ">>", 2, -2);
        gives(-8, ">>", 31, -1);
        gives(-8, ">>", 32, -8);
        gives(-8, ">>", 33, -4);
        gives(LEAST, ">>", 31, -1);
        gives(LEAST, ">>", -1, -1);
        gives(GREATEST, ">>", 30, 1);
        gives(GREATEST, ">>", 31, 0);
        gives(GREATEST, ">>", 64, GREATEST);
    }

    /** "< <= == != give 1 or 0" */
    private static void comparisonsGiveOneOrZero() {
        int[][] pairs = {{LEAST, GREATEST}, {-1, 0}, {0, 1}, {GREATEST - 1, GREATEST}, {LEAST, LEAST + 1}};
        for (int[] pair : pairs) {
            gives(pair[0], "<", pair[1], 1);
            gives(pair[1], "<", pair[0], 0);
            gives(pair[0], "<", pair[0], 0);
            gives(pair[0], "<=", pair[1], 1);
            gives(pair[1], "<=", pair[0], 0);
            gives(pair[0], "<=", pair[0], 1);
            gives(pair[0], "==", pair[1], 0);
            gives(pair[0], "==", pair[0], 1);
            gives(pair[0], "!=", pair[1], 1);
            gives(pair[0], "!=", pair[0], 0);
        }
    }

    /** "/ % cut towards 0" */
    private static void divisionsCutTowardsZero() {
        gives(7, "/", 2, 3);
        gives(-7, "/", 2, -3);
        gives(7, "/", -2, -3);
        gives(-7, "/", -2, 3);
        gives(7, "%", 2, 1);
        gives(-7, "%", 2, -1);
        gives(7, "%", -2, 1);
        gives(-7, "%", -2, -1);
        gives(1, "/", 2, 0);
        gives(-1, "/", 2, 0);
        gives(0, "/", -5, 0);
        gives(0, "%", -5, 0);
        gives(GREATEST, "/", LEAST, 0);
        gives(GREATEST, "%", LEAST, GREATEST);
        gives(LEAST, "/", GREATEST, -1);
        gives(LEAST, "%", GREATEST, -1);
        gives(LEAST, "/", LEAST, 1);
        gives(LEAST, "%", LEAST, 0);
    }

    /** "the least / -1 is itself, % 0" */
    private static void theLeastByMinusOne() {
        gives(LEAST, "/", -1, LEAST);
        gives(LEAST, "%", -1, 0);
        gives(LEAST + 1, "/", -1, GREATEST);
        gives(LEAST + 1, "%", -1, 0);
        gives(LEAST, "/", 1, LEAST);
        gives(LEAST, "/", -2, 1073741824);
    }

    /** "/ or % by 0 ENDS the RUN: 1" */
    private static void byZeroEndsTheRun() {
        for (String op : new String[] {"/", "%"}) {
            for (String left : new String[] {"0", "7", "-2147483648", "v1"}) {
                SsaForge x = with("b0: v1 = 5 show v1 v1 = " + left + " " + op + " 0 show v1 ret 9");
                runs("by the number 0", x, 100, 1, 0, 1, 3, 0);
                refused("nothing behind it is shown", IndexOutOfBoundsException.class, () -> x.shown(1));
                SsaForge y = with("b0: v1 = 5 v2 = in show v1 v1 = " + left + " " + op + " v2 show v1 ret 9");
                runs("by a register that is 0", y, 100, 1, 0, 1, 4, 0);
                Call.giveInput(y, 1);
                runs("by a register that is 1", y, 100, 0, 9, 2, 6, 1);
                y.ssa();
                Call.giveInput(y, 0);
                due("ssa", 1, () -> y.run(100));
                y.pass(7);
                due("coloured", 1, () -> y.run(100));
            }
        }
        SsaForge z = with("b0: v1 = 1 / v2 ret 1");
        runs("with the last of the fuel", z, 1, 1, 0, 0, 1, 0);
    }

    /** "in: the next of INPUT, 0 behind its end" */
    private static void nextOfInput() {
        SsaForge x = with("b0: v1 = in v2 = in show v1 show v2 ret 0");
        int[][] inputs = {{}, {5}, {5, 6}, {5, 6, 7}, {LEAST, GREATEST}, {0, 0}};
        for (int[] input : inputs) {
            Call.giveInput(x, input);
            for (int again = 0; again < 2; again++) {
                runs("input of " + input.length, x, 10, 0, 0, 2, 5, Math.min(2, input.length));
                for (int i = 0; i < 2; i++) {
                    int n = i;
                    due("int " + i, i < input.length ? input[i] : 0, () -> x.shown(n));
                }
            }
        }
        SsaForge y = with("b0: v1 = in v1 = in v1 = in ret v1");
        Call.giveInput(y, 1, 2);
        runs("before its end", y, 2, 4, 0, 0, 2, 2);
        runs("behind its end", y, 9, 0, 0, 0, 4, 2);
    }

    /** "if: the first goal, unless the OPERAND is 0" */
    private static void theFirstGoalUnlessZero() {
        SsaForge x = with("b0: v1 = in if v1 b1 b2 b1: ret 1 b2: ret 2");
        for (int value : new int[] {1, -1, 2, LEAST, GREATEST, 0x10000}) {
            Call.giveInput(x, value);
            runs("the first", x, 9, 0, 1);
            runs("by a number", with("b0: if " + value + " b1 b2 b1: ret 1 b2: ret 2"), 9, 0, 1);
        }
        Call.giveInput(x, 0);
        runs("the second", x, 9, 0, 2);
        runs("by 0", with("b0: if 0 b1 b2 b1: ret 1 b2: ret 2"), 9, 0, 2);
    }

    /** "each ROW, PHIS of a block together, and END is a STEP" */
    private static void eachIsAStep() {
        runs("ret", with("b0: ret 3"), 5, 0, 3, 0, 1, 0);
        runs("jump", with("b0: jump b1 b1: ret 3"), 5, 0, 3, 0, 2, 0);
        runs("if", with("b0: if 1 b1 b1 b1: ret 3"), 5, 0, 3, 0, 2, 0);
        runs("rows", with("b0: v1 = 1 v2 = v1 + 1 v3 = in show v3 ret v2"), 5, 0, 2, 1, 5, 0);
        String two = "b0: v1 = in v2 = in if v1 b1 b2 b1: v1 = 5 v2 = 6 jump b2 b2: show v1 show v2 ret 0";
        SsaForge x = with(two);
        runs("plain", x, 100, 0, 0, 2, 6, 0);
        due("two phis", 2, x::ssa);
        runs("two phis are one step", x, 100, 0, 0, 2, 7, 0);
        SsaForge y = inSsa("b0: v1 = in if v1 b1 b2 b1: v1 = 5 jump b2 b2: show v1 ret 0");
        runs("one phi is one step", y, 100, 0, 0, 1, 5, 0);
        SsaForge z = inSsa("b0: v1 = in if v1 b1 b2 b1: jump b2 b2: show v1 ret 0");
        runs("no phi is none", z, 100, 0, 0, 1, 4, 0);
    }

    /** "No STEP is left of the FUEL: 4." */
    private static void noStepIsLeft() {
        SsaForge x = inSsa("b0: v1 = in show 1 if v1 b1 b2 b1: v1 = 5 jump b2 b2: show v1 ret 8");
        for (int fuel = 1; fuel < 6; fuel++) {
            int shown = fuel < 2 ? 0 : fuel < 5 ? 1 : 2;
            runs("too little", x, fuel, 4, 0, shown, fuel, 0);
        }
        runs("just enough", x, 6, 0, 8, 2, 6, 0);
        runs("more", x, 7, 0, 8, 2, 6, 0);
        SsaForge y = with("b0: ret 8");
        runs("one step", y, 1, 0, 8, 0, 1, 0);
        SsaForge z = with("b0: jump b1 b1: jump b1");
        runs("the least fuel", z, 1, 4, 0, 0, 1, 0);
        runs("the greatest fuel", z, 100000, 4, 0, 0, 100000, 0);
        SsaForge u = with("b0: jump b1 b1: v1 = v1 + 1 v2 = v1 < 24999 if v2 b1 b2 b2: jump b3 b3: v3 = 1 ret v1");
        // b0: 1, b1: 24999 times 3, b2: 1, b3: 2
        runs("far", u, 75001, 0, 24999, 0, 75001, 0);
        runs("far, one less", u, 75000, 4, 0, 0, 75000, 0);
    }

    /** "A show that would be the 513th: 5." */
    private static void the513thShow() {
        String text = "b0: v1 = in jump b1 b1: show v1 v1 = v1 - 1 if v1 b1 b2 b2: ret 7";
        SsaForge x = with(text);
        Call.giveInput(x, 512);
        runs("512", x, 100000, 0, 7, 512, 2 + 3 * 512 + 1, 1);
        due("the last one", 1, () -> x.shown(511));
        refused("no 513th", IndexOutOfBoundsException.class, () -> x.shown(512));
        Call.giveInput(x, 513);
        runs("513", x, 100000, 5, 0, 512, 2 + 3 * 512 + 1, 1);
        due("the last one", 2, () -> x.shown(511));
        refused("not the 513th", IndexOutOfBoundsException.class, () -> x.shown(512));
        runs("with the last of the fuel", x, 2 + 3 * 512 + 1, 5, 0, 512, 2 + 3 * 512 + 1, 1);
        runs("no step is left for it", x, 2 + 3 * 512, 4, 0, 512, 2 + 3 * 512, 1);
        x.ssa();
        due("ssa", 5, () -> x.run(100000));
        Call.giveInput(x, 511);
        runs("511", x, 100000, 0, 7, 511);
        refused("not so many now", IndexOutOfBoundsException.class, () -> x.shown(511));
    }

    // ---- WAYS and what follows

    /** "The WAYS of a block go to its goals (one, if both are one)." */
    private static void oneWayIfBothAreOne() {
        SsaForge x = with("b0: v1 = in if v1 b1 b1 b1: if v1 b2 b3 b2: v1 = 4 if v1 b4 b4 b3: if v1 b4 b4 b4: ret v1");
        blocks("preds", x, 1, 0, 1, 1, 1, 2);
        blocks("frontier", x, 2, 0, 0, 1, 1, 0);
        due("a phi", 1, x::ssa);
        lists("an operand for each pred, not for each goal", x, "b0:", "v0 = in", "if v0 b1 b1", "b1:", "if v0 b2 b3", "b2:",
                "v1 = 4", "if v1 b4 b4", "b3:", "if v0 b4 b4", "b4:", "v2 = phi(b2 v1, b3 v0)", "ret v2");
        due("one goal: its rows come to the pred's end", 2, x::plain);
        lists("no new block", x, "b0:", "v0 = in", "if v0 b1 b1", "b1:", "if v0 b2 b3", "b2:", "v1 = 4", "v2 = v1",
                "if v1 b4 b4", "b3:", "v2 = v0", "if v0 b4 b4", "b4:", "ret v2");
        SsaForge y = with("b0: v1 = in if v1 b1 b2 b1: ret 1 b2: ret 2");
        blocks("two goals, two ways", y, 1, 0, 1, 1);
    }

    /** Blocks that are not REACHED. */
    private static void notReached() {
        SsaForge x = with("b0: jump b2 b1: show v1 v2 = 3 jump b2 b2: ret v2 b3: show v3 if v4 b3 b4 b4: jump b3");
        blocks("idom", x, 0, -1, -2, 0, -2, -2);
        blocks("preds, reached or not", x, 1, 0, 0, 2, 2, 1);
        blocks("frontier", x, 2, 0, 0, 0, 0, 0);
        blocks("live", x, 3, 1, 1, 1, 2, 2);
        blocks("loop", x, 4, -1, -1, -1, -1, -1);
        counts("rows of all blocks", x, 0, 5, 3, 0, 2);
        runs("run", x, 9, 0, 0, 0, 2, 0);
        // b1 sets v2 and leads to b2: as it is not reached, there is no phi
        due("no phi", 0, x::ssa);
        lists("dropped", x, "b0:", "v0 = 0", "jump b1", "b1:", "ret v0");
        blocks("idom then", x, 0, -1, 0);
        refused("dropped", NoSuchElementException.class, () -> x.block(2, 0));
        SsaForge y = with("b0: v1 = in if v1 b2 b4 b1: jump b3 b2: jump b3 b3: jump b5 b4: ret 0 b5: ret 1");
        blocks("a pred that is not reached has no say", y, 0, -1, -2, 0, 2, 0, 3);
        due("no frontier by it", 0, () -> y.block(2, 2));
        SsaForge z = with("b0: ret 0 b1: ret 1");
        blocks("nothing leads there", z, 0, -1, -2);
        due("one is left", 0, z::ssa);
        due("block", 1, () -> z.count(1));
        SsaForge u = with("b0: v1 = in jump b2 b1: jump b2 b2: v1 = v1 - 1 if v1 b2 b3 b3: ret 0 b4: if v1 b2 b1");
        due("a loop's head with preds that are not reached", 4, () -> u.block(2, 1));
        blocks("the loop", u, 4, -1, -1, 2, -1, -1);
    }

    /** "if all WAYS from b0 to b go through a (b itself, too); its IDOM is the last other one that does" */
    private static void itselfDominates() {
        SsaForge x = with("b0: jump b1 b1: jump b2 b2: if v0 b1 b3 b3: if v0 b3 b4 b4: ret 0");
        blocks("a chain", x, 0, -1, 0, 1, 2, 3);
        SsaForge y = with("b0: if v0 b1 b2 b1: jump b3 b2: jump b3 b3: if v0 b1 b4 b4: ret 0");
        blocks("a join", y, 0, -1, 0, 0, 0, 3);
        SsaForge z = with("b0: if v0 b3 b2 b1: ret 0 b2: if v0 b3 b1 b3: if v0 b2 b1");
        blocks("neither of two", z, 0, -1, 0, 0, 0);
        blocks("frontiers", z, 2, 0, 0, 2, 2);
        SsaForge u = with("b0: ret 0");
        blocks("b0 alone", u, 0, -1);
        // two rings that are entered at several places: no block but b0 is on all ways
        String[] rings = {"b0: if v0 b1 b2 b1: jump b5 b2: if v0 b4 b3 b3: jump b4 b4: if v0 b5 b3 b5: jump b4",
            "b0: if v0 b2 b1 b1: jump b5 b2: if v0 b3 b4 b3: jump b4 b4: if v0 b3 b5 b5: jump b4",
            "b0: if v0 b2 b1 b1: jump b5 b2: if v0 b4 b3 b3: jump b4 b4: if v0 b5 b3 b5: jump b4",
            "b0: if v0 b1 b2 b1: jump b5 b2: if v0 b3 b4 b3: jump b4 b4: if v0 b3 b5 b5: jump b4"};
        for (String ring : rings) {
            blocks("rings", with(ring), 0, -1, 0, 0, 0, 0, 0);
            blocks("their frontiers", with(ring), 2, 0, 1, 2, 1, 2, 1);
            blocks("no heads", with(ring), 4, -1, -1, -1, -1, -1, -1);
        }
    }

    /** "FRONTIER of a: the blocks that a does not DOMINATE, or that are a, to which a WAY leads .." */
    private static void ownFrontier() {
        SsaForge x = with("b0: v1 = in jump b1 b1: v1 = v1 - 1 if v1 b1 b2 b2: ret v1");
        blocks("a way to itself", x, 2, 0, 1, 0);
        due("its phi", 1, x::ssa);
        SsaForge y = with("b0: v1 = in jump b1 b1: jump b2 b2: v1 = v1 - 1 if v1 b1 b3 b3: ret v1");
        blocks("a longer way to itself", y, 2, 0, 1, 1, 0);
        due("its phi", 1, y::ssa);
        SsaForge z = with("b0: v1 = in jump b1 b1: v1 = v1 - 1 jump b2 b2: ret v1");
        blocks("no way to itself", z, 2, 0, 0, 0);
        due("no phi", 0, z::ssa);
        SsaForge u = with("b0: jump b1 b1: if v1 b1 b2 b2: if v1 b1 b3 b3: if v1 b2 b1");
        blocks("itself and others", u, 2, 0, 1, 2, 2);
        SsaForge w = with("b0: if v1 b1 b2 b1: if v1 b1 b3 b2: jump b3 b3: ret 0");
        blocks("itself and a join", w, 2, 0, 2, 1, 0);
    }

    /** Loops, as block tells them: "that with the fewest blocks, of several the greatest head", "-1 without one". */
    private static void loopsOfBlocks() {
        SsaForge x = with("b0: jump b1 b1: if v1 b1 b2 b2: ret 0");
        blocks("one block", x, 4, -1, 1, -1);
        SsaForge y = with("b0: jump b1 b1: if v1 b2 b4 b2: if v1 b2 b3 b3: jump b1 b4: ret 0");
        blocks("the inner one", y, 4, -1, 1, 2, 1, -1);
        SsaForge z = with("b0: jump b1 b1: if v1 b2 b3 b2: jump b1 b3: if v1 b1 b4 b4: ret 0");
        blocks("loops of one head are one", z, 4, -1, 1, 1, 1, -1);
        SsaForge u = with("b0: jump b3 b1: if v1 b2 b4 b2: if v1 b1 b3 b3: jump b1 b4: ret 0");
        // b3 is the head of b3 b1 b2, b1 that of b1 b2
        blocks("a head with a greater number", u, 4, -1, 1, 1, 3, -1);
        SsaForge s = with("b0: jump b1 b1: if v1 b2 b6 b2: jump b3 b3: jump b4 b4: jump b5 b5: jump b1 b6: ret 0");
        blocks("a long one", s, 4, -1, 1, 1, 1, 1, 1, -1);
        SsaForge w = with("b0: if v1 b1 b2 b1: if v1 b2 b3 b2: if v1 b1 b3 b3: ret 0");
        blocks("a ring that no block of it dominates", w, 4, -1, -1, -1, -1);
        SsaForge t = with("b0: jump b1 b1: if v1 b2 b3 b2: jump b4 b3: jump b4 b4: if v1 b1 b5 b5: ret 0");
        blocks("all from which its end can be reached", t, 4, -1, 1, 1, 1, 1, -1);
    }

    /** "LIVE at a place: registers that on some WAYS from there are used before they are set" */
    private static void liveAtAPlace() {
        SsaForge x = with("b0: v1 = v1 + v2 v3 = v1 show v3 if v4 b1 b2 b1: v5 = v6 ret v5 b2: v6 = 1 ret v6");
        blocks("used before they are set", x, 3, 4, 1, 0);
        String[] uses = {"v1 = v199", "v1 = v199 + 2", "v1 = 2 + v199", "v1 = v0 + v199", "show v199"};
        for (String use : uses) {
            SsaForge s = with("b0: jump b1 b1: " + use + " ret 0 b2: ret v0 b3: ret 0");
            int more = use.contains("v0") ? 1 : 0;
            blocks("v199 in " + use, s, 3, 1 + more, 1 + more, 1, 0);
            due("at once in " + use, 1 + more, () -> s.count(4));
        }
        blocks("v199 in if", with("b0: if v199 b1 b1 b1: ret v0 b2: ret 0"), 3, 2, 1, 0);
        blocks("v199 in ret", with("b0: jump b1 b1: ret v199 b2: ret 0"), 3, 1, 1, 0);
        SsaForge y = with("b0: if v1 b1 b2 b1: v2 = 1 jump b3 b2: jump b3 b3: ret v2");
        blocks("on some ways", y, 3, 2, 0, 1, 1);
        SsaForge z = with("b0: jump b1 b1: v1 = 2 jump b2 b2: jump b1");
        blocks("set and never used", z, 3, 0, 0, 0);
        SsaForge u = with("b0: v1 = 2 jump b1 b1: if 1 b1 b2 b2: ret v1");
        blocks("through a loop", u, 3, 0, 1, 1);
        u.ssa();
        blocks("no phi is in the way", u, 3, 0, 1, 1);
        SsaForge w = inSsa(Texts.DIAMOND);
        // v1 and v2 are used at the ends of b1 and b2, v3 is set by the phi in front of b3's first row
        blocks("phis", w, 3, 0, 1, 1, 2);
        SsaForge t = inSsa("b0: v1 = in v2 = in if v1 b1 b2 b1: v2 = 3 jump b2 b2: ret v2");
        blocks("an operand is not used at the phi's block", t, 3, 0, 0, 1);
    }

    /** "DROPPING blocks: what is left is numbered anew, in order; PHIS lose what is of a block that is no PRED any more." */
    private static void dropping() {
        SsaForge x = with("b0: v1 = in jump b3 b1: ret 1 b2: jump b4 b3: if v1 b5 b7 b4: ret 2 b5: v1 = 4 jump b7 b6: jump b7 b7: "
                + "ret v1");
        due("a phi", 1, x::ssa);
        lists("numbered anew", x, "b0:", "v0 = in", "jump b1", "b1:", "if v0 b2 b3", "b2:", "v1 = 4", "jump b3", "b3:",
                "v2 = phi(b1 v0, b2 v1)", "ret v2");
        String text = "b0: v1 = in if v1 b1 b2 b1: v1 = in if 0 b4 b3 b2: v1 = in jump b4 b3: v1 = in jump b4 b4: ret v1";
        SsaForge y = inSsa(text);
        lists("before", y, "b0:", "v0 = in", "if v0 b1 b2", "b1:", "v1 = in", "if 0 b4 b3", "b2:", "v3 = in", "jump b4",
                "b3:", "v2 = in", "jump b4", "b4:", "v4 = phi(b1 v1, b2 v3, b3 v2)", "ret v4");
        due("folded", 1, () -> y.pass(1));
        lists("no pred any more, but not dropped", y, "b0:", "v0 = in", "if v0 b1 b2", "b1:", "v1 = in", "jump b3", "b2:",
                "v3 = in", "jump b4", "b3:", "v2 = in", "jump b4", "b4:", "v4 = phi(b2 v3, b3 v2)", "ret v4");
        SsaForge z = inSsa("b0: v1 = in if 1 b2 b1 b1: v1 = 3 jump b3 b2: v1 = in jump b3 b3: show v1 jump b3");
        due("a block, its way, and not its row", 2, () -> z.pass(1));
        lists("the phi keeps two", z, "b0:", "v0 = in", "jump b1", "b1:", "v2 = in", "jump b2", "b2:", "v3 = phi(b1 v2, b2 v3)",
                "show v3", "jump b2");
    }
}
