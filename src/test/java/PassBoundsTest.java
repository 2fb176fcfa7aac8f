/** The boundary cases of SSA, the PASSES and PLAIN: each "but", "not", "unless", "else", "only" and "none" in them. */
public final class PassBoundsTest extends Checks {
    private PassBoundsTest() {
    }

    public static void main(String[] args) {
        zerosForWhatIsLive();
        phisWhereLive();
        phisByPhis();
        latestBefore();
        constantsOfRows();
        constantsByZero();
        constantsOfPhis();
        constantsOfIfs();
        constantsCounted();
        equalsOfCopies();
        equalsOfLikes();
        equalsOfPhis();
        equalsAsTheyWere();
        deadRows();
        deadDivisions();
        deadPhis();
        loopsWithOneDoor();
        loopsRows();
        loopsAsLongAsThereIsOne();
        loopsOfOneHead();
        joinsOnlyPred();
        joinsPhis();
        joinsThenIfs();
        numbers();
        coloursTakenAsIfLive();
        coloursBehindIt();
        coloursGivenBefore();
        colouredForm();
        plainButItself();
        plainNewBlocks();
        plainOneAfterTheOther();
        plainOneForAllWays();
        finish();
    }

    private static void passes(String what, SsaForge x, int k, int due) {
        due(what + ", pass " + k, due, () -> x.pass(k));
    }

    // ---- SSA

    /** "For each register that is LIVE at the beginning of b0, by numbers, a ROW v = 0 comes in front of b0's" */
    private static void zerosForWhatIsLive() {
        SsaForge x = with("b0: v1 = 2 ret v1");
        due("none is live", 0, x::ssa);
        lists("no row comes", x, "b0:", "v0 = 2", "ret v0");
        lists("one", inSsa("b0: v1 = v1 + 2 ret v1"), "b0:", "v0 = 0", "v1 = v0 + 2", "ret v1");
        lists("by numbers", inSsa("b0: v9 = 2 show v199 show v0 ret v100"), "b0:", "v0 = 0", "v1 = 0", "v2 = 0", "v3 = 2",
                "show v2", "show v0", "ret v1");
        lists("live by another block alone", inSsa("b0: jump b1 b1: ret v7"), "b0:", "v0 = 0", "jump b1", "b1:", "ret v0");
        lists("set on one way, live by the other", inSsa("b0: if 1 b1 b2 b1: v7 = 3 jump b2 b2: ret v7"), "b0:", "v0 = 0",
                "if 1 b1 b2", "b1:", "v1 = 3", "jump b2", "b2:", "v2 = phi(b0 v0, b1 v1)", "ret v2");
        lists("set on both ways", inSsa("b0: if 1 b1 b2 b1: v7 = 3 ret v7 b2: v7 = 4 ret v7"), "b0:", "if 1 b1 b2", "b1:",
                "v0 = 3", "ret v0", "b2:", "v1 = 4", "ret v1");
        SsaForge y = inSsa("b0: " + each(199, i -> "show v" + i + " ") + "ret v199");
        due("200 rows come", 199 + 200, () -> y.count(2));
        due("all are live at once", 200, () -> y.block(0, 3) + y.count(4));
    }

    /** "and at whose beginning it is LIVE; PHIS of a block stand in front, by registers" */
    private static void phisWhereLive() {
        String way = "b0: v3 = in v1 = in v2 = in if v1 b1 b2 b1: v1 = 5 v2 = 6 v3 = 7 jump b2 b2: ";
        lists("all live, by registers", inSsa(way + "show v3 show v2 ret v1"), "b0:", "v0 = in", "v1 = in", "v2 = in",
                "if v1 b1 b2", "b1:", "v3 = 5", "v4 = 6", "v5 = 7", "jump b2", "b2:", "v6 = phi(b0 v1, b1 v3)",
                "v7 = phi(b0 v2, b1 v4)", "v8 = phi(b0 v0, b1 v5)", "show v8", "show v7", "ret v6");
        SsaForge x = with(way + "v1 = 2 show v1 show v2 v3 = v2 ret v3");
        due("one is live", 1, x::ssa);
        SsaForge y = with(way + "ret 0");
        due("none is live", 0, y::ssa);
        SsaForge z = with(way + "v2 = v2 + 1 ret 0");
        due("used before it is set", 1, z::ssa);
        SsaForge u = with("b0: v1 = in if v1 b1 b2 b1: jump b2 b2: ret v1");
        due("set by no block with that frontier", 0, u::ssa);
    }

    /** "a PHI of it comes to each block that is in the FRONTIER of a block that sets it, by ROW or PHI" */
    private static void phisByPhis() {
        String text = "b0: v1 = in if v1 b1 b4 b1: if v1 b2 b3 b2: v1 = 7 jump b3 b3: jump b5 b4: jump b5 b5: ret v1";
        SsaForge x = with(text);
        // b5 is in the frontier of b3, which sets v1 by its phi alone, and not in that of b2
        due("frontier of b2", 1, () -> x.block(2, 2));
        due("two phis", 2, x::ssa);
        lists("a phi of a phi", x, "b0:", "v0 = in", "if v0 b1 b4", "b1:", "if v0 b2 b3", "b2:", "v1 = 7", "jump b3", "b3:",
                "v2 = phi(b1 v0, b2 v1)", "jump b5", "b4:", "jump b5", "b5:", "v3 = phi(b3 v2, b4 v0)", "ret v3");
        SsaForge y = with("b0: v1 = 1 jump b1 b1: if v1 b2 b3 b2: v1 = v1 - 1 if v1 b4 b1 b3: ret v1 b4: jump b1");
        due("in a loop", 1, y::ssa);
        lists("an operand for each pred", y, "b0:", "v0 = 1", "jump b1", "b1:", "v1 = phi(b0 v0, b2 v2, b4 v2)", "if v1 b2 b3",
                "b2:", "v2 = v1 - 1", "if v2 b4 b1", "b3:", "ret v1", "b4:", "jump b1");
    }

    /** "the latest before, of the block or of blocks that DOMINATE it, in a PHI, for each PRED, the latest at its end" */
    private static void latestBefore() {
        lists("in one block", inSsa("b0: v1 = 1 v1 = v1 + v1 v1 = v1 * v1 show v1 ret v1"), "b0:", "v0 = 1", "v1 = v0 + v0",
                "v2 = v1 * v1", "show v2", "ret v2");
        String text = "b0: v1 = in v2 = in if v1 b1 b2 b1: v2 = v2 + 1 v2 = v2 + 2 show v2 jump b2 b2: show v1 ret v2";
        lists("at the pred's end", inSsa(text), "b0:", "v0 = in", "v1 = in", "if v0 b1 b2", "b1:", "v2 = v1 + 1",
                "v3 = v2 + 2", "show v3", "jump b2", "b2:", "v4 = phi(b0 v1, b1 v3)", "show v0", "ret v4");
        String own = "b0: v1 = in jump b1 b1: show v1 if v1 b2 b1 b2: v1 = 4 jump b1";
        lists("the phi itself at its own end", inSsa(own), "b0:", "v0 = in", "jump b1", "b1:",
                "v1 = phi(b0 v0, b1 v1, b2 v2)", "show v1", "if v1 b2 b1", "b2:", "v2 = 4", "jump b1");
    }

    // ---- pass 1

    /** "numbers for OPERANDS, .. else an ANY one: ANY; else what OP gives .. in: ANY." */
    private static void constantsOfRows() {
        SsaForge x = inSsa("b0: v1 = in v2 = v1 v3 = 4 v4 = v3 v5 = v1 - v1 v6 = v4 * v3 v7 = v1 * 0 show v2 show v5 show v7 ret v6");
        passes("two copies and what they give", x, 1, 3);
        lists("any stays", x, "b0:", "v0 = in", "v1 = v0", "v4 = v0 - v0", "v6 = v0 * 0", "show v1", "show v4", "show v6",
                "ret 16");
        passes("nothing more", x, 1, 0);
        SsaForge y = inSsa("b0: show 3 v1 = 3 show v1 ret v1");
        passes("shows stay", y, 1, 1);
        lists("with the number", y, "b0:", "show 3", "show 3", "ret 3");
        SsaForge z = inSsa("b0: v1 = 5 v2 = in v3 = v2 + v1 v4 = v1 - v2 show v3 ret v4");
        passes("one", z, 1, 1);
        lists("a number for an operand", z, "b0:", "v1 = in", "v2 = v1 + 5", "v3 = 5 - v1", "show v2", "ret v3");
    }

    /** "/ and % by 0: ANY", "(not / or % by 0)" */
    private static void constantsByZero() {
        for (String op : new String[] {"/", "%"}) {
            SsaForge x = inSsa("b0: v1 = 6 " + op + " 0 v2 = v1 + 1 if v1 b1 b2 b1: ret v2 b2: ret 2");
            passes("any" + op, x, 1, 0);
            lists("all stays", x, "b0:", "v0 = 6 " + op + " 0", "v1 = v0 + 1", "if v0 b1 b2", "b1:", "ret v1", "b2:", "ret 2");
            SsaForge y = inSsa("b0: v1 = 3 v2 = v1 - 3 v3 = v1 " + op + " v2 ret v3");
            passes("by what is found to be 0", y, 1, 2);
            lists("the division stays", y, "b0:", "v2 = 3 " + op + " 0", "ret v2");
            SsaForge z = inSsa("b0: v1 = 3 v2 = v1 - 2 v3 = v1 " + op + " v2 ret v3");
            passes("by 1", z, 1, 3);
            lists("the division goes", z, "b0:", op.equals("/") ? "ret 3" : "ret 0");
            SsaForge u = inSsa("b0: v1 = in v2 = v1 " + op + " 4 v3 = 0 " + op + " v1 show v3 ret v2");
            passes("any by a number, a number by any", u, 1, 0);
        }
    }

    /** "A PHI: of the OPERANDS of open WAYS, but UNTOLD ones: none: UNTOLD; all one number: that; else ANY." */
    private static void constantsOfPhis() {
        String way = "b0: v1 = in if v1 b1 b2 b1: v2 = %s jump b3 b2: v2 = %s jump b3 b3: ret v2";
        SsaForge same = inSsa(String.format(way, "4", "4"));
        passes("one number", same, 1, 3);
        lists("no phi", same, "b0:", "v0 = in", "if v0 b1 b2", "b1:", "jump b3", "b2:", "jump b3", "b3:", "ret 4");
        SsaForge other = inSsa(String.format(way, "4", "5"));
        passes("two numbers", other, 1, 2);
        lists("a phi of numbers", other, "b0:", "v0 = in", "if v0 b1 b2", "b1:", "jump b3", "b2:", "jump b3", "b3:",
                "v3 = phi(b1 4, b2 5)", "ret v3");
        SsaForge any = inSsa(String.format(way, "4", "in"));
        passes("a number and any", any, 1, 1);
        SsaForge anys = inSsa(String.format(way, "in", "4"));
        passes("any and a number", anys, 1, 1);
        SsaForge both = inSsa(String.format(way, "v1", "v1"));
        passes("one register that is any", both, 1, 0);
        SsaForge loop = inSsa("b0: v1 = 4 jump b1 b1: show v1 v1 = v1 + 0 v2 = in if v2 b1 b2 b2: ret v1");
        passes("an untold one does not count", loop, 1, 3);
        lists("the loop keeps the number", loop, "b0:", "jump b1", "b1:", "show 4", "v3 = in", "if v3 b1 b2", "b2:", "ret 4");
        SsaForge turn = inSsa("b0: v1 = 4 jump b1 b1: show v1 v1 = v1 + 1 v2 = in if v2 b1 b2 b2: ret v1");
        passes("another number the second time", turn, 1, 1);
        SsaForge shut = inSsa("b0: v1 = 4 v3 = 0 jump b1 b1: show v1 if v3 b2 b3 b2: v1 = in jump b1 b3: ret v1");
        passes("a way that is not open does not count", shut, 1, 5);
        lists("no way back", shut, "b0:", "jump b1", "b1:", "show 4", "jump b2", "b2:", "ret 4");
        // each round tells one register more: v3 is any by in, v2 by v3 and v1 by v2
        SsaForge late = inSsa("b0: v1 = 0 v2 = 0 v3 = 0 jump b1 b1: show v1 v1 = v2 v2 = v3 v3 = in v4 = in if v4 b1 b2 b2: ret v1");
        passes("any comes by and by", late, 1, 3);
        lists("all phis stay", late, "b0:", "jump b1", "b1:", "v3 = phi(b0 0, b1 v6)", "v4 = phi(b0 0, b1 v7)",
                "v5 = phi(b0 0, b1 v8)", "show v3", "v6 = v4", "v7 = v5", "v8 = in", "v9 = in", "if v9 b1 b2", "b2:", "ret v6");
        SsaForge opened = inSsa("b0: v1 = 4 v3 = 0 jump b1 b1: if v3 b2 b3 b2: ret v1 b3: v3 = v3 + 1 v1 = v1 + 1 jump b1");
        passes("a way that is opened by the phi", opened, 1, 2);
    }

    /** "if: UNTOLD: no WAY; a number: its WAY; ANY: both; jump: its WAY is open"; "an if of a number is a jump (FOLDED)" */
    private static void constantsOfIfs() {
        for (String number : new String[] {"1", "-1", "2147483647", "-2147483648"}) {
            SsaForge x = inSsa("b0: v1 = " + number + " if v1 b1 b2 b1: ret 1 b2: ret 2");
            passes("row, if and block", x, 1, 3);
            lists("the first", x, "b0:", "jump b1", "b1:", "ret 1");
        }
        SsaForge y = inSsa("b0: v1 = 0 if v1 b1 b2 b1: ret 1 b2: ret 2");
        passes("row, if and block", y, 1, 3);
        lists("the second", y, "b0:", "jump b1", "b1:", "ret 2");
        SsaForge z = inSsa("b0: v1 = in if v1 b1 b2 b1: ret 1 b2: ret 2");
        passes("both", z, 1, 0);
        SsaForge u = inSsa("b0: v1 = in if v1 b1 b1 b1: ret 1");
        passes("any, with one goal twice", u, 1, 0);
        lists("it stays an if", u, "b0:", "v0 = in", "if v0 b1 b1", "b1:", "ret 1");
        SsaForge w = inSsa("b0: if 0 b1 b1 b1: ret 1");
        passes("a number, with one goal twice", w, 1, 1);
        lists("a jump", w, "b0:", "jump b1", "b1:", "ret 1");
        // b1 stands before b2 in the order, and is gone by b2 alone
        SsaForge first = inSsa("b0: if 1 b2 b3 b1: if 1 b4 b5 b2: if 1 b1 b5 b3: jump b1 b4: ret 5 b5: ret 6");
        passes("three ifs and two blocks", first, 1, 5);
        lists("first goals", first, "b0:", "jump b2", "b1:", "jump b3", "b2:", "jump b1", "b3:", "ret 5");
        SsaForge second = inSsa("b0: if 0 b3 b2 b1: if 0 b5 b4 b2: if 0 b5 b1 b3: jump b1 b4: ret 5 b5: ret 6");
        passes("three ifs and two blocks", second, 1, 5);
        lists("second goals", second, "b0:", "jump b2", "b1:", "jump b3", "b2:", "jump b1", "b3:", "ret 5");
        // what is behind the if of b1 is not looked at before v1 is told, and then only one of it
        SsaForge t = inSsa("b0: v1 = 1 jump b1 b1: if v1 b2 b3 b2: show v1 jump b1 b3: v1 = 0 jump b1");
        passes("the phi keeps its number", t, 1, 4);
        lists("b3 is never gone", t, "b0:", "jump b1", "b1:", "jump b2", "b2:", "show 1", "jump b1");
    }

    /** "It answers DROPPED ROWS and PHIS (of blocks that are gone), FOLDED ones and DROPPED blocks together." */
    private static void constantsCounted() {
        SsaForge x = inSsa("b0: if 1 b1 b2 b1: ret 1 b2: v1 = 3 v2 = 4 show v1 if v2 b3 b4 b3: v3 = v2 jump b4 b4: ret v3");
        due("a phi that does not count", 1, () -> x.count(3));
        // b0's if and its row v0 = 0, and the three blocks; not the rows that come to numbers there nor the if of b2
        passes("only of what is gone", x, 1, 5);
        lists("what is left", x, "b0:", "jump b1", "b1:", "ret 1");
        SsaForge y = inSsa("b0: v1 = in ret v1");
        passes("nothing", y, 1, 0);
        SsaForge z = inSsa("b0: ret 1");
        passes("no row", z, 1, 0);
    }

    // ---- pass 2

    /** "v = OPERAND: v is REPLACED by it." */
    private static void equalsOfCopies() {
        SsaForge x = inSsa("b0: v1 = in v2 = v1 v3 = v2 v4 = 5 v5 = v4 v6 = v3 + v5 show v6 if v2 b1 b1 b1: ret v3");
        passes("registers and numbers", x, 2, 4);
        lists("everywhere", x, "b0:", "v0 = in", "v5 = v0 + 5", "show v5", "if v0 b1 b1", "b1:", "ret v0");
        passes("nothing more", x, 2, 0);
        SsaForge y = inSsa("b0: v1 = in v2 = in show v1 show v1 ret v2");
        passes("in and show are never replaced", y, 2, 0);
        SsaForge z = inSsa("b0: v1 = in v9 = v1 if v1 b1 b2 b1: v9 = 5 jump b2 b2: ret v9");
        passes("operands of phis, too", z, 2, 2);
        lists("when all is done", z, "b0:", "v0 = in", "if v0 b1 b2", "b1:", "jump b2", "b2:", "v3 = phi(b0 v0, b1 5)",
                "ret v3");
    }

    /** "the same OP, the same OPERANDS; of + * & | ^ == != also the other way round" */
    private static void equalsOfLikes() {
        for (String op : "+ - * / % & | ^ << >> < <= == !=".split(" ")) {
            boolean round = "+ * & | ^ == !=".contains(op);
            SsaForge x = inSsa("b0: v1 = in v2 = v1 " + op + " 3 v3 = v1 " + op + " 3 show v2 ret v3");
            passes("the same " + op, x, 2, 1);
            lists("by the first " + op, x, "b0:", "v0 = in", "v1 = v0 " + op + " 3", "show v1", "ret v1");
            SsaForge y = inSsa("b0: v1 = in v2 = v1 " + op + " 3 v3 = 3 " + op + " v1 show v2 ret v3");
            passes("a number the other way round " + op, y, 2, round ? 1 : 0);
            SsaForge z = inSsa("b0: v1 = in v2 = v1 " + op + " 3 v3 = v1 " + op + " 4 v4 = v2 " + op + " 3 show v2 show v3 ret v4");
            passes("other operands " + op, z, 2, 0);
        }
        SsaForge u = inSsa("b0: v1 = in v2 = v1 + 3 v3 = v1 - 3 v4 = v1 < 3 v5 = v1 <= 3 v6 = v1 / 3 v7 = v1 % 3 ret 0");
        passes("another op", u, 2, 0);
        SsaForge w = inSsa("b0: v1 = in if v1 b1 b2 b1: v2 = v1 + 1 show v2 jump b3 b2: v2 = v1 + 1 show v2 jump b3 b3: v3 = v1 + 1 "
                + "ret v3");
        passes("not in blocks that do not dominate it", w, 2, 0);
        SsaForge t = inSsa("b0: v1 = in jump b2 b1: v2 = v1 + 1 ret v2 b2: v3 = v1 + 1 show v3 jump b1");
        passes("in one that dominates it, by the order", t, 2, 1);
        lists("the greater number stands before", t, "b0:", "v0 = in", "jump b2", "b1:", "ret v1", "b2:", "v1 = v0 + 1",
                "show v1", "jump b1");
        SsaForge s = inSsa("b0: v1 = in v2 = v1 + 1 v3 = v1 v4 = v3 + 1 v5 = v4 * 2 v6 = v2 * 2 show v5 ret v6");
        passes("operands first have what was replaced", s, 2, 3);
        lists("one of each", s, "b0:", "v0 = in", "v1 = v0 + 1", "v4 = v1 * 2", "show v4", "ret v4");
    }

    /** "A PHI with the same OPERANDS, for the same PREDS, ..; all of whose OPERANDS are itself or one other OPERAND" */
    private static void equalsOfPhis() {
        String way = "b0: v1 = in v2 = in v3 = in if v1 b1 b2 b1: v4 = %s v5 = %s jump b3 b2: v4 = %s v5 = %s jump b3 b3: show v4 ret v5";
        SsaForge x = inSsa(String.format(way, "v2", "v2", "v3", "v3"));
        passes("copies first", x, 2, 4);
        passes("the same operands", x, 2, 1);
        lists("by the one before it", x, "b0:", "v0 = in", "v1 = in", "v2 = in", "if v0 b1 b2", "b1:", "jump b3", "b2:", "jump b3",
                "b3:", "v7 = phi(b1 v1, b2 v2)", "show v7", "ret v7");
        SsaForge y = inSsa(String.format(way, "v2", "v3", "v3", "v2"));
        passes("copies first", y, 2, 4);
        passes("the same operands for other preds", y, 2, 0);
        SsaForge z = inSsa(String.format(way, "v2", "7", "v2", "7"));
        passes("copies first", z, 2, 4);
        passes("one other operand", z, 2, 2);
        lists("a register and a number", z, "b0:", "v0 = in", "v1 = in", "v2 = in", "if v0 b1 b2", "b1:", "jump b3", "b2:",
                "jump b3", "b3:", "show v1", "ret 7");
        SsaForge u = inSsa("b0: v1 = in jump b1 b1: show v1 v2 = in if v2 b2 b1 b2: jump b1");
        passes("there is no phi", u, 2, 0);
        SsaForge w = inSsa("b0: v1 = in jump b1 b1: show v1 v2 = in if v2 b2 b3 b2: v1 = v1 jump b1 b3: v1 = 4 jump b1");
        passes("copies first", w, 2, 2);
        passes("itself and two others", w, 2, 0);
        SsaForge t = inSsa("b0: v1 = in jump b1 b1: show v1 v2 = in if v2 b2 b3 b2: v1 = v1 jump b1 b3: ret v1");
        passes("a copy first", t, 2, 1);
        passes("itself and one other", t, 2, 1);
        lists("by the other", t, "b0:", "v0 = in", "jump b1", "b1:", "show v0", "v2 = in", "if v2 b2 b3", "b2:", "jump b1", "b3:",
                "ret v0");
        String twice = "b0: v1 = in v2 = in v3 = in if v1 b1 b2 b1: v4 = v2 jump b3 b2: v4 = v3 jump b3 b3: show v4 if v1 b4 b5 b4: "
                + "v5 = v2 jump b6 b5: v5 = v3 jump b6 b6: ret v5";
        SsaForge s = inSsa(twice);
        passes("copies first", s, 2, 4);
        passes("a phi of another block is no like", s, 2, 0);
    }

    /** "(OPERANDS of PHIS as they were before the pass; what is REPLACED by a register that was REPLACED has ..)" */
    private static void equalsAsTheyWere() {
        String text = "b0: v1 = in v2 = 5 if v1 b1 b2 b1: v3 = v1 jump b3 b2: v3 = v1 jump b3 b3: ret v3";
        SsaForge x = inSsa(text);
        passes("only the copies", x, 2, 3);
        lists("the phi stays", x, "b0:", "v0 = in", "if v0 b1 b2", "b1:", "jump b3", "b2:", "jump b3", "b3:",
                "v4 = phi(b1 v0, b2 v0)", "ret v4");
        passes("until the next time", x, 2, 1);
        SsaForge y = inSsa("b0: v1 = in v2 = v1 jump b1 b1: v3 = v2 + 1 show v3 if v3 b2 b1 b2: v4 = v2 + 1 ret v4");
        passes("a copy and a like", y, 2, 2);
        SsaForge z = inSsa("b0: v1 = in v2 = v1 if 1 b2 b1 b1: v2 = in jump b2 b2: ret v2");
        passes("folded", z, 1, 2);
        lists("a phi with one operand", z, "b0:", "v0 = in", "v1 = v0", "jump b1", "b1:", "v3 = phi(b0 v1)", "ret v3");
        passes("the copy, and the phi by what that one has", z, 2, 2);
        lists("both", z, "b0:", "v0 = in", "jump b1", "b1:", "ret v0");
    }

    // ---- pass 3

    /** "ROWS and PHIS that set others go, but in, ..", "registers that show, if, ret .. use" */
    private static void deadRows() {
        SsaForge x = inSsa("b0: v1 = 1 v2 = 2 v3 = 3 v4 = 4 v5 = v4 + 1 v6 = in show v1 if v2 b1 b1 b1: ret v3");
        passes("two", x, 3, 2);
        lists("show, if and ret need theirs, in stays", x, "b0:", "v0 = 1", "v1 = 2", "v2 = 3", "v5 = in", "show v0",
                "if v1 b1 b1", "b1:", "ret v2");
        passes("nothing more", x, 3, 0);
        SsaForge y = inSsa("b0: v1 = in v2 = v1 + 1 v3 = v2 + 1 v4 = v3 + 1 ret v3");
        passes("what needed ones use is needed", y, 3, 1);
        SsaForge w = inSsa("b0: v1 = 1 v2 = 2 v3 = 3 v4 = v1 + v2 v5 = v3 - v4 v6 = 6 v7 = 6 - v6 show v7 ret v5");
        passes("on both sides", w, 3, 0);
        SsaForge z = inSsa("b0: v1 = in v2 = v1 + 1 v3 = v2 + 1 v4 = v3 + 1 ret 0");
        passes("a whole chain", z, 3, 3);
        lists("but in", z, "b0:", "v0 = in", "ret 0");
        SsaForge u = inSsa("b0: v1 = 1 jump b1 b1: v2 = 2 show 3 ret 4");
        passes("show and ret of numbers", u, 3, 2);
    }

    /** "ROWS with / or % by what is no number but 0 (by a number but 0: not)", "and / and % as told" */
    private static void deadDivisions() {
        for (String op : new String[] {"/", "%"}) {
            SsaForge x = inSsa("b0: v1 = in v2 = 6 v3 = v2 " + op + " v1 ret 0");
            passes("by a register", x, 3, 0);
            SsaForge y = inSsa("b0: v1 = in v2 = v1 + 6 v3 = v2 " + op + " 0 ret 0");
            passes("by 0", y, 3, 0);
            SsaForge z = inSsa("b0: v1 = in v2 = v1 + 6 v3 = v2 " + op + " 1 ret 0");
            passes("by 1", z, 3, 2);
            lists("gone", z, "b0:", "v0 = in", "ret 0");
            SsaForge u = inSsa("b0: v1 = in v2 = v1 + 6 v3 = v2 " + op + " -1 ret 0");
            passes("by -1", u, 3, 2);
            SsaForge w = inSsa("b0: v1 = 5 v2 = 0 " + op + " v1 v3 = v2 + 1 ret 0");
            passes("what only uses it goes", w, 3, 1);
            lists("it stays with what it uses", w, "b0:", "v0 = 5", "v1 = 0 " + op + " v0", "ret 0");
            SsaForge t = inSsa("b0: v1 = in v3 = v1 " + op + " 7 ret v3");
            passes("needed, by a number", t, 3, 0);
        }
    }

    /** "and those that ROWS and PHIS use that set NEEDED ones" */
    private static void deadPhis() {
        String loop = "b0: v1 = in v2 = in v3 = 9 jump b1 b1: v4 = v2 v2 = v1 v1 = v4 v3 = v3 - 1 if v3 b1 b2 b2: ret %s";
        SsaForge x = inSsa(String.format(loop, "v3"));
        due("three phis", 3, () -> x.count(3));
        passes("two phis that need one another, and three copies", x, 3, 5);
        lists("what counts", x, "b0:", "v0 = in", "v1 = in", "v2 = 9", "jump b1", "b1:", "v5 = phi(b0 v2, b1 v9)", "v9 = v5 - 1",
                "if v9 b1 b2", "b2:", "ret v9");
        SsaForge y = inSsa(String.format(loop, "v1"));
        passes("one is needed, so both are", y, 3, 0);
        SsaForge z = inSsa("b0: v1 = in if v1 b1 b2 b1: v1 = 5 jump b2 b2: v2 = v1 + 1 ret 0");
        passes("a phi, its operand and its user", z, 3, 3);
    }

    // ---- pass 4

    /** "if h has just one PRED that is not in the loop, which ends with jump" */
    private static void loopsWithOneDoor() {
        String body = "v2 = v1 + 1 show v2 v3 = in if v3 b2 b3 b3: ret 0";
        SsaForge x = inSsa("b0: v1 = in jump b1 b1: jump b2 b2: " + body);
        passes("a jump", x, 4, 1);
        lists("to the end of the pred", x, "b0:", "v0 = in", "jump b1", "b1:", "v1 = v0 + 1", "jump b2", "b2:", "show v1",
                "v2 = in", "if v2 b2 b3", "b3:", "ret 0");
        passes("nothing more", x, 4, 0);
        SsaForge y = inSsa("b0: v1 = in if v1 b1 b2 b1: ret 1 b2: " + body);
        passes("an if", y, 4, 0);
        SsaForge z = inSsa("b0: v1 = in jump b1 b1: if v1 b2 b2 b2: " + body);
        passes("an if with one goal twice", z, 4, 0);
        SsaForge u = inSsa("b0: v1 = in if v1 b1 b4 b1: jump b2 b2: " + body + " b4: jump b2");
        passes("two preds outside", u, 4, 0);
        SsaForge r = inSsa("b0: v1 = in if v1 b1 b2 b1: jump b2 b2: " + body);
        passes("b0 and another outside", r, 4, 0);
        SsaForge w = inSsa("b0: v1 = in jump b1 b1: v2 = v1 + 1 show v2 if v2 b2 b3 b2: jump b1 b3: if v2 b1 b4 b4: ret 0");
        passes("more preds inside", w, 4, 1);
        SsaForge t = inSsa("b0: v1 = in jump b1 b1: v2 = v1 + 1 show v2 ret 0");
        passes("no loop", t, 4, 0);
        SsaForge s = inSsa("b0: v1 = in if v1 b1 b2 b1: v2 = v1 + 1 show v2 if v2 b2 b3 b2: v4 = v1 + 1 show v4 if v4 b1 b3 b3: ret 0");
        passes("a ring without a head", s, 4, 0);
    }

    /** "v = OPERAND or of OP but / and %, (/ and % by a number but 0 are, too), whose registers are all set outside" */
    private static void loopsRows() {
        String[] may = {"v9", "7", "v9 + 1", "v9 - v8", "3 * v9", "v9 & v8", "v9 | 1", "v9 ^ v9", "v9 << 1", "v9 >> 1", "v9 < 1",
            "v9 <= 1", "v9 == 1", "v9 != 1", "v9 / 2", "v9 / -1", "v9 % 1", "v9 % -2147483648", "1 + 2"};
        for (String row : may) {
            SsaForge x = inLoop(row);
            passes("moved: " + row, x, 4, 1);
            lists("to b0: " + row, x, "b0:", "v0 = in", "v1 = in", "v2 = in", "v4 = " + row.replace("v9", "v0").replace("v8", "v1"),
                    "jump b1", "b1:", "v3 = in", "show v4", "v5 = in", "if v5 b1 b2", "b2:", "ret v5");
        }
        String[] not = {"in", "v9 / 0", "v9 % 0", "v9 / v8", "v9 % v8", "7 / v8", "v1", "v1 + 1", "1 + v1", "v1 / 2", "v2",
            "v2 + v9"};
        for (String row : not) {
            passes("not moved: " + row, inLoop(row), 4, 0);
        }
        SsaForge y = inSsa("b0: jump b1 b1: v1 = 7 show v1 v2 = in if v2 b1 b2 b2: ret 0");
        passes("the first row of all", y, 4, 1);
        lists("to an empty block", y, "b0:", "v0 = 7", "jump b1", "b1:", "show v0", "v1 = in", "if v1 b1 b2", "b2:", "ret 0");
        SsaForge z = inSsa("b0: jump b1 b1: v1 = in v2 = v1 + 1 show v2 if v1 b1 b2 b2: ret 0");
        passes("nothing is set outside", z, 4, 0);
    }

    /** v9 and v8 are set outside, v1 and v2 in the loop; v1 by a phi, too, where the row uses it. */
    private static SsaForge inLoop(String row) {
        return inSsa("b0: v9 = in v8 = in v1 = in jump b1 b1: v2 = in v3 = " + row + " show v3 v1 = in if v1 b1 b2 b2: ret v1");
    }

    /** "Heads by numbers, the greatest first .. as long as there is one: the first ROW (blocks by numbers) in the loop" */
    private static void loopsAsLongAsThereIsOne() {
        SsaForge x = inSsa("b0: v9 = in jump b1 b1: v1 = v9 + 1 v2 = v1 + 1 v3 = v2 + 1 show v3 if v3 b1 b2 b2: ret 0");
        passes("one after the other", x, 4, 3);
        lists("in their order", x, "b0:", "v0 = in", "v1 = v0 + 1", "v2 = v1 + 1", "v3 = v2 + 1", "jump b1", "b1:", "show v3",
                "if v3 b1 b2", "b2:", "ret 0");
        SsaForge y = inSsa("b0: v9 = in jump b3 b1: v1 = v4 + 1 v2 = v9 + 2 show v1 show v2 if v9 b3 b2 b2: ret 0 b3: v4 = v9 + 3 "
                + "v5 = v9 + 4 show v5 jump b1");
        passes("four", y, 4, 4);
        // v2 of b1 is first, then v4 of b3, by which v1 of b1 comes before v5 of b3
        lists("the first again each time", y, "b0:", "v0 = in", "v4 = v0 + 2", "v1 = v0 + 3", "v3 = v1 + 1", "v2 = v0 + 4",
                "jump b3", "b1:", "show v3", "show v4", "if v0 b3 b2", "b2:", "ret 0", "b3:", "show v2", "jump b1");
        SsaForge z = inSsa("b0: v9 = in jump b1 b1: v8 = in jump b2 b2: v1 = v9 + v8 v2 = v9 + 1 show v1 show v2 if v8 b2 b3 b3: "
                + "if v9 b1 b4 b4: ret 0");
        passes("two from the inner loop, one of them from the outer one, too", z, 4, 3);
        lists("through both", z, "b0:", "v0 = in", "v3 = v0 + 1", "jump b1", "b1:", "v1 = in", "v2 = v0 + v1", "jump b2", "b2:",
                "show v2", "show v3", "if v1 b2 b3", "b3:", "if v0 b1 b4", "b4:", "ret 0");
        SsaForge u = inSsa("b0: v9 = in jump b2 b1: v1 = v9 + 1 show v1 if v9 b1 b3 b2: v2 = v9 + 2 show v2 jump b1 b3: if v9 b2 b4 "
                + "b4: ret 0");
        // b2 is the head of the outer loop, b1 of the inner one: b2 is done before, so that v1 goes twice: out of it at once
        passes("the greatest head first", u, 4, 2);
        lists("the outer one has the greater number", u, "b0:", "v0 = in", "v2 = v0 + 1", "v1 = v0 + 2", "jump b2", "b1:", "show v2",
                "if v0 b1 b3", "b2:", "show v1", "jump b1", "b3:", "if v0 b2 b4", "b4:", "ret 0");
    }

    /** "loops of one head are one" */
    private static void loopsOfOneHead() {
        SsaForge x = inSsa("b0: v9 = in jump b1 b1: if v9 b2 b3 b2: v1 = in jump b1 b3: v2 = v1 + 1 v3 = v9 + 1 show v2 show v3 "
                + "if v2 b1 b4 b4: ret 0");
        passes("v1 is set in the other part", x, 4, 1);
        SsaForge y = inSsa("b0: v9 = in jump b1 b1: if v9 b2 b3 b2: v1 = v9 + 1 show v1 jump b1 b3: v2 = v9 + 2 show v2 if v2 b1 b4 "
                + "b4: ret 0");
        passes("rows of both parts", y, 4, 2);
        lists("blocks by numbers", y, "b0:", "v0 = in", "v1 = v0 + 1", "v2 = v0 + 2", "jump b1", "b1:", "if v0 b2 b3", "b2:",
                "show v1", "jump b1", "b3:", "show v2", "if v2 b1 b4", "b4:", "ret 0");
        SsaForge z = inSsa("b0: v9 = in jump b1 b1: v1 = in if v1 b1 b2 b2: v2 = v9 + 1 show v2 ret 0");
        passes("a row behind the loop stays", z, 4, 0);
    }

    // ---- pass 5

    /** "as long as there is one: the first block but b0 whose only PRED ends with jump to it" */
    private static void joinsOnlyPred() {
        SsaForge x = inSsa("b0: show 0 jump b1 b1: show 1 ret 5");
        passes("one", x, 5, 1);
        lists("joined", x, "b0:", "show 0", "show 1", "ret 5");
        passes("nothing more", x, 5, 0);
        lists("as it was", x, "b0:", "show 0", "show 1", "ret 5");
        for (int[] again : new int[][] {{5, 5, 1, 5}, {5, 1, 5, 5}}) {
            SsaForge s = inSsa("b0: show 0 jump b1 b1: show 1 v1 = in if v1 b2 b3 b2: ret 2 b3: ret 3");
            for (int i = 0; i < again.length; i++) {
                passes("one, and nothing more", s, again[i], i == 0 ? 1 : 0);
                lists("three are left", s, "b0:", "show 0", "show 1", "v0 = in", "if v0 b1 b2", "b1:", "ret 2", "b2:", "ret 3");
            }
        }
        SsaForge y = inSsa("b0: v1 = in if v1 b1 b2 b1: jump b3 b2: jump b3 b3: ret 0");
        passes("two preds, or one that ends with if", y, 5, 0);
        SsaForge z = inSsa("b0: jump b1 b1: show 1 jump b1");
        passes("a pred and itself", z, 5, 0);
        SsaForge u = inSsa("b0: ret 1");
        passes("b0 alone", u, 5, 0);
        SsaForge w = inSsa("b0: show 0 jump b4 b1: show 1 ret 5 b2: show 2 jump b1 b3: show 3 jump b2 b4: show 4 jump b3");
        passes("a whole chain", w, 5, 4);
        lists("in the order of the jumps", w, "b0:", "show 0", "show 4", "show 3", "show 2", "show 1", "ret 5");
        SsaForge t = inSsa("b0: v1 = in if v1 b3 b4 b1: show 1 ret 1 b2: show 2 ret 2 b3: show 3 jump b1 b4: show 4 jump b2");
        passes("two chains", t, 5, 2);
        lists("numbered anew", t, "b0:", "v0 = in", "if v0 b1 b2", "b1:", "show 3", "show 1", "ret 1", "b2:", "show 4", "show 2",
                "ret 2");
    }

    /** "its PHIS' registers are REPLACED by their OPERANDS everywhere, .. PHIS that have it as PRED have that one" */
    private static void joinsPhis() {
        SsaForge x = inSsa("b0: v1 = in v2 = v1 if 1 b2 b1 b1: v2 = in jump b2 b2: show v2 v3 = v2 + 1 if v2 b3 b4 b3: v2 = 7 jump b4 "
                + "b4: show v3 ret v2");
        passes("folded", x, 1, 3);
        lists("a phi with one operand", x, "b0:", "v0 = in", "v1 = v0", "jump b1", "b1:", "v3 = phi(b0 v1)", "show v3",
                "v4 = v3 + 1", "if v3 b2 b3", "b2:", "jump b3", "b3:", "v6 = phi(b1 v3, b2 7)", "show v4", "ret v6");
        passes("one", x, 5, 1);
        lists("everywhere", x, "b0:", "v0 = in", "v1 = v0", "show v1", "v4 = v1 + 1", "if v1 b1 b2", "b1:", "jump b2", "b2:",
                "v6 = phi(b0 v1, b1 7)", "show v4", "ret v6");
        // b3 is joined to b4, so that the phi's pred b3 has a greater number than b2: operands stand by preds
        SsaForge y = inSsa("b0: v1 = in if v1 b4 b2 b1: show v2 ret v2 b2: v2 = 2 jump b1 b3: v2 = 3 jump b1 b4: show 4 jump b3");
        lists("before", y, "b0:", "v0 = in", "if v0 b4 b2", "b1:", "v1 = phi(b2 v2, b3 v3)", "show v1", "ret v1", "b2:",
                "v2 = 2", "jump b1", "b3:", "v3 = 3", "jump b1", "b4:", "show 4", "jump b3");
        passes("one", y, 5, 1);
        lists("the pred has another number", y, "b0:", "v0 = in", "if v0 b3 b2", "b1:", "v1 = phi(b2 v2, b3 v3)", "show v1",
                "ret v1", "b2:", "v2 = 2", "jump b1", "b3:", "show 4", "v3 = 3", "jump b1");
        SsaForge z = inSsa("b0: v1 = in if v1 b4 b3 b1: show v2 ret v2 b2: v2 = 2 jump b1 b3: v2 = 3 jump b1 b4: show 4 jump b2");
        passes("one", z, 5, 1);
        lists("by numbers of preds", z, "b0:", "v0 = in", "if v0 b3 b2", "b1:", "v1 = phi(b2 v2, b3 v3)", "show v1", "ret v1",
                "b2:", "v2 = 3", "jump b1", "b3:", "show 4", "v3 = 2", "jump b1");
    }

    /** "Then, as long as there is one: an if with one goal twice is a jump (of PHIS of that goal nothing changes)." */
    private static void joinsThenIfs() {
        SsaForge x = inSsa("b0: v1 = in if v1 b1 b2 b1: v1 = 4 if v1 b3 b3 b2: if v1 b3 b3 b3: ret v1");
        passes("two", x, 5, 2);
        lists("the phi stays", x, "b0:", "v0 = in", "if v0 b1 b2", "b1:", "v1 = 4", "jump b3", "b2:", "jump b3", "b3:",
                "v2 = phi(b1 v1, b2 v0)", "ret v2");
        SsaForge y = inSsa("b0: v1 = in jump b1 b1: if v1 b2 b2 b2: ret v1");
        passes("a join and then an if", y, 5, 2);
        lists("not joined any more", y, "b0:", "v0 = in", "jump b1", "b1:", "ret v0");
        passes("but next time", y, 5, 1);
        SsaForge z = inSsa("b0: v1 = in if v1 b1 b2 b1: ret 1 b2: ret 2");
        passes("two goals", z, 5, 0);
        SsaForge u = inSsa("b0: v1 = in v2 = v1 + 1 if v2 b1 b1 b1: ret 0");
        due("its operand is live", 1, () -> u.count(4));
        passes("one", u, 5, 1);
        passes("nothing needs its operand any more", u, 3, 1);
        SsaForge w = inSsa("b0: v1 = in if v1 b1 b1 b1: v2 = in ret v2");
        passes("one", w, 5, 1);
        blocks("not live any more", w, 3, 0, 0);
        SsaForge t = inSsa(Texts.wide(100));
        String many = Call.listing(t);
        passes("with thousands of operands", t, 5, 1);
        check("all are there", Call.listing(t), many.replaceAll("if v\\d+ b1 b1\n", "jump b1\n"));
    }

    // ---- passes 6 and 7

    /** "NUMBERS: v0, v1, .. as SSA gives them. It answers how many registers there are." */
    private static void numbers() {
        passes("none", inSsa("b0: show 1 ret 0"), 6, 0);
        passes("one", inSsa("b0: v9 = in ret 0"), 6, 1);
        SsaForge x = inSsa("b0: v1 = 1 v2 = in v3 = 3 v4 = in show v2 ret v4");
        passes("rows", x, 3, 2);
        lists("with gaps", x, "b0:", "v1 = in", "v3 = in", "show v1", "ret v3");
        passes("two", x, 6, 2);
        lists("without", x, "b0:", "v0 = in", "v1 = in", "show v0", "ret v1");
        passes("again", x, 6, 2);
        SsaForge y = inSsa("b0: v1 = in if v1 b1 b4 b1: v2 = 2 jump b5 b2: v3 = 3 ret v3 b3: v4 = 4 jump b2 b4: v5 = 5 jump b2 b5: "
                + "v6 = 6 jump b3");
        passes("by the order", y, 6, 6);
        lists("under each block those by their numbers", y, "b0:", "v0 = in", "if v0 b1 b4", "b1:", "v1 = 2", "jump b5", "b2:",
                "v4 = 3", "ret v4", "b3:", "v3 = 4", "jump b2", "b4:", "v5 = 5", "jump b2", "b5:", "v2 = 6", "jump b3");
    }

    /** "(behind all PHIS of the block, for PHIS; one that is not LIVE there is taken as if it were)" */
    private static void coloursTakenAsIfLive() {
        passes("none", inSsa("b0: show 1 ret 0"), 7, 0);
        SsaForge x = inSsa("b0: v1 = in v2 = in v3 = in ret 0");
        passes("one for all that are dead", x, 7, 1);
        lists("the same one", x, "b0:", "v0 = in", "v0 = in", "v0 = in", "ret 0");
        SsaForge y = inSsa("b0: v1 = in v2 = in v3 = in ret v1");
        passes("what is dead does not hide what is live", y, 7, 2);
        lists("dead ones share", y, "b0:", "v0 = in", "v1 = in", "v1 = in", "ret v0");
        SsaForge u = inSsa("b0: v1 = in v2 = in jump b1 b1: v3 = v1 v1 = v2 v2 = v3 v4 = in if v4 b1 b2 b2: ret 0");
        passes("phis that only need one another", u, 7, 3);
        SsaForge w = deadPhi();
        due("live behind the phis", 1, () -> w.block(2, 3));
        due("the dead one counts", 2, () -> w.count(4));
        passes("two phis, one of them dead", w, 7, 2);
        lists("each has its own colour", w, "b0:", "v0 = in", "if v0 b1 b2", "b1:", "v0 = in", "v1 = in", "jump b2", "b2:",
                "v0 = phi(b0 8, b1 v0)", "v1 = phi(b0 9, b1 v1)", "ret v1");
    }

    /** The block that used b2's first phi is dropped. */
    private static SsaForge deadPhi() {
        SsaForge x = inSsa("b0: v3 = in v1 = 8 v2 = 9 if v3 b1 b2 b1: v1 = in v2 = in jump b2 b2: if 0 b3 b4 b3: ret v1 b4: ret v2");
        passes("two numbers, an if and a block", x, 1, 4);
        passes("numbers", x, 6, 5);
        passes("a join", x, 5, 1);
        return x;
    }

    /** "behind it": what is dead behind the phis has no say behind a row, and what another block left none at all. */
    private static void coloursBehindIt() {
        String way = "b0: v3 = in v1 = 8 v2 = 9 if v3 b1 b2 b1: v1 = in v2 = in jump b2 b2: v4 = in show v4 if 0 b3 b4 b3: ret v1 "
                + "b4: ret v2";
        SsaForge x = inSsa(way);
        passes("two numbers, an if and a block", x, 1, 4);
        passes("two", x, 7, 2);
        lists("a dead phi's colour is free behind the row", x, "b0:", "v0 = in", "if v0 b1 b2", "b1:", "v0 = in", "v1 = in",
                "jump b2", "b2:", "v0 = phi(b0 8, b1 v0)", "v1 = phi(b0 9, b1 v1)", "v0 = in", "show v0", "jump b3", "b3:",
                "ret v1");
        SsaForge y = inSsa("b0: v2 = in v1 = in if v1 b1 b2 b1: v3 = 5 jump b3 b2: v3 = 6 if v1 b3 b4 b3: show v3 ret v2 b4: ret 0");
        passes("three", y, 7, 3);
        lists("b4 stands before b3 in the order", y, "b0:", "v0 = in", "v1 = in", "if v1 b1 b2", "b1:", "v1 = 5", "jump b3", "b2:",
                "v2 = 6", "if v1 b3 b4", "b3:", "v1 = phi(b1 v1, b2 v2)", "show v1", "ret v0", "b4:", "ret 0");
        // with 64 registers before it, the dead phi of b2 is v64, the greatest; v0 is live through all blocks
        SsaForge z = inSsa("b0: v7 = in " + repeat(59, "v8 = in ") + "v3 = in v1 = 8 v2 = 9 if v3 b1 b2 b1: v1 = in v2 = in jump b2 b2: "
                + "if 0 b3 b4 b3: ret v2 b4: show v1 ret v7");
        passes("two numbers, an if and a block", z, 1, 4);
        passes("registers", z, 6, 65);
        blocks("live", z, 3, 0, 1, 2, 2);
        due("at once", 3, () -> z.count(4));
        passes("three", z, 7, 3);
    }

    /** "the least colour that no register has that is LIVE behind it .., and that was given before" */
    private static void coloursGivenBefore() {
        SsaForge x = inSsa("b0: v1 = in v2 = in v3 = v1 + v2 v4 = in show v4 ret v3");
        passes("two", x, 7, 2);
        lists("what ends in a row is free behind it", x, "b0:", "v0 = in", "v1 = in", "v0 = v0 + v1", "v1 = in", "show v1", "ret v0");
        SsaForge y = inSsa("b0: v1 = in v2 = in v3 = v1 + v2 show v2 ret v3");
        passes("two", y, 7, 2);
        lists("only one of them ends", y, "b0:", "v0 = in", "v1 = in", "v0 = v0 + v1", "show v1", "ret v0");
        SsaForge z = inSsa("b0: v1 = in v2 = in v3 = v1 + v2 show v1 show v2 ret v3");
        passes("three", z, 7, 3);
        SsaForge u = inSsa("b0: v1 = in if v1 b1 b2 b1: v2 = in show v1 ret v2 b2: v3 = in ret v3");
        passes("two", u, 7, 2);
        lists("live on one way alone", u, "b0:", "v0 = in", "if v0 b1 b2", "b1:", "v1 = in", "show v0", "ret v1", "b2:",
                "v0 = in", "ret v0");
        SsaForge w = inSsa("b0: v1 = in v2 = in jump b1 b1: v1 = v1 + v2 if v1 b1 b2 b2: ret v2");
        passes("two", w, 7, 2);
        lists("the least colour is the one of the operand", w, "b0:", "v0 = in", "v1 = in", "jump b1", "b1:",
                "v0 = phi(b0 v0, b1 v0)", "v0 = v0 + v1", "if v0 b1 b2", "b2:", "ret v1");
    }

    /** "(the form is told COLOURED: from then on only PLAIN and RUNS can be had)" */
    private static void colouredForm() {
        SsaForge x = coloured(Texts.COUNTDOWN);
        due("form", 2, () -> x.count(0));
        refusedWithoutChange("ssa", IllegalStateException.class, x, x::ssa);
        for (int i = 1; i <= 7; i++) {
            int k = i;
            refusedWithoutChange("pass " + k, IllegalStateException.class, x, () -> x.pass(k));
        }
        runs("a run", x, 1000, 0, 6, 0, 21, 0);
        counts("counts", x, 2, 4, 4, 2, 2);
        blocks("live by colours", x, 3, 0, 2, 2, 1);
        due("plain", 3, x::plain);
        due("form then", 0, () -> x.count(0));
        runs("a run then", x, 1000, 0, 6, 0, 20, 0);
        due("ssa again", 2, x::ssa);
    }

    // ---- PLAIN

    /** "v = OPERAND for each PHI (but v = v)", "(none, if nothing is to be moved)" */
    private static void plainButItself() {
        String text = "b0: v1 = in jump b1 b1: show v1 v2 = in if v2 b2 b1 b2: v1 = 4 jump b1";
        SsaForge x = inSsa(text);
        lists("before", x, "b0:", "v0 = in", "jump b1", "b1:", "v1 = phi(b0 v0, b1 v1, b2 v3)", "show v1", "v2 = in",
                "if v2 b2 b1", "b2:", "v3 = 4", "jump b1");
        due("two rows and no new block", 2, x::plain);
        lists("nothing on the way from b1", x, "b0:", "v0 = in", "v1 = v0", "jump b1", "b1:", "show v1", "v2 = in", "if v2 b2 b1",
                "b2:", "v3 = 4", "v1 = v3", "jump b1");
        SsaForge y = coloured(text);
        due("colours are one", 0, y::plain);
        lists("no row", y, "b0:", "v0 = in", "jump b1", "b1:", "show v0", "v1 = in", "if v1 b2 b1", "b2:", "v0 = 4", "jump b1");
        SsaForge z = inSsa("b0: v1 = 5 ret v1");
        due("no phis", 0, z::plain);
        due("plain", 0, () -> z.count(0));
        lists("as it was", z, "b0:", "v0 = 5", "ret v0");
        SsaForge u = inSsa("b0: v1 = in v2 = 3 if v1 b1 b2 b1: v2 = 4 jump b2 b2: ret v2");
        passes("numbers", u, 1, 2);
        due("operands that are numbers", 2, u::plain);
        lists("a new block for one", u, "b0:", "v0 = in", "if v0 b1 b3", "b1:", "v3 = 4", "jump b2", "b2:", "ret v3", "b3:",
                "v3 = 3", "jump b2");
    }

    /** "comes to the end of the PRED, if it has one goal; else in a new block behind all others, that jumps there" */
    private static void plainNewBlocks() {
        SsaForge x = inSsa("b0: v1 = in v2 = v1 if v1 b1 b2 b1: v1 = 5 if v1 b2 b3 b2: v2 = v1 jump b3 b3: show v1 ret v2");
        lists("before", x, "b0:", "v0 = in", "v1 = v0", "if v0 b1 b2", "b1:", "v2 = 5", "if v2 b2 b3", "b2:",
                "v3 = phi(b0 v0, b1 v2)", "v4 = v3", "jump b3", "b3:", "v5 = phi(b1 v2, b2 v3)", "v6 = phi(b1 v1, b2 v4)", "show v5",
                "ret v6");
        due("six rows", 6, x::plain);
        lists("by the block's number, then preds", x, "b0:", "v0 = in", "v1 = v0", "if v0 b1 b4", "b1:", "v2 = 5", "if v2 b5 b6",
                "b2:", "v4 = v3", "v5 = v3", "v6 = v4", "jump b3", "b3:", "show v5", "ret v6", "b4:", "v3 = v0", "jump b2", "b5:",
                "v3 = v2", "jump b2", "b6:", "v5 = v2", "v6 = v1", "jump b3");
        SsaForge y = inSsa("b0: v1 = in if v1 b2 b1 b1: v1 = 5 jump b2 b2: ret v1");
        due("the first goal", 2, y::plain);
        lists("leads to the new block", y, "b0:", "v0 = in", "if v0 b3 b1", "b1:", "v1 = 5", "v2 = v1", "jump b2", "b2:", "ret v2",
                "b3:", "v2 = v0", "jump b2");
    }

    /** "the first v that is no OPERAND of what is left to be moved is set, and done; if there is none: t .." */
    private static void plainOneAfterTheOther() {
        String loop = "b0: v1 = in v2 = in v3 = in jump b1 b1: show v1 show v2 show v3 %s jump b1";
        SsaForge x = inSsa(String.format(loop, "v3 = v2 v2 = v1 v1 = 7"));
        passes("copies", x, 2, 3);
        due("moves", 6, x::plain);
        lists("a chain from its end", x, "b0:", "v0 = in", "v1 = in", "v2 = in", "v3 = v0", "v4 = v1", "v5 = v2", "jump b1", "b1:",
                "show v3", "show v4", "show v5", "v5 = v4", "v4 = v3", "v3 = 7", "jump b1");
        SsaForge y = inSsa(String.format(loop, "v9 = v1 v1 = v2 v2 = v3 v3 = v9"));
        passes("copies", y, 2, 4);
        due("moves, and one for the ring", 7, y::plain);
        lists("a ring of three", y, "b0:", "v0 = in", "v1 = in", "v2 = in", "v3 = v0", "v4 = v1", "v5 = v2", "jump b1", "b1:",
                "show v3", "show v4", "show v5", "v6 = v3", "v3 = v4", "v4 = v5", "v5 = v6", "jump b1");
        SsaForge z = inSsa(String.format(loop, "v3 = v1 v1 = v2 v2 = v3"));
        passes("copies", z, 2, 3);
        due("moves", 7, z::plain);
        lists("what hangs on a ring is set before it", z, "b0:", "v0 = in", "v1 = in", "v2 = in", "v3 = v0", "v4 = v1", "v5 = v2",
                "jump b1", "b1:", "show v3", "show v4", "show v5", "v5 = v3", "v6 = v3", "v3 = v4", "v4 = v6", "jump b1");
    }

    /** "t, the register with the least number that is nowhere in the PROGRAM (one for all WAYS)" */
    private static void plainOneForAllWays() {
        String text = "b0: v1 = in v2 = in jump b1 b1: show v1 show v2 v3 = v1 v1 = v2 v2 = v3 v4 = in if v4 b2 b3 b2: jump b1 b3: "
                + "v5 = v1 v1 = v2 v2 = v5 v6 = in if v6 b1 b4 b4: ret 0";
        SsaForge x = inSsa(text);
        // v4 to v6 are the copies of b1, v8 to v10 those of b3: on the way from b3 all is as it was
        passes("copies", x, 2, 6);
        due("two moves, and a ring", 5, x::plain);
        lists("the least one", x, "b0:", "v0 = in", "v1 = in", "v2 = v0", "v3 = v1", "jump b1", "b1:", "show v2", "show v3",
                "v7 = in", "if v7 b2 b3", "b2:", "v4 = v2", "v2 = v3", "v3 = v4", "jump b1", "b3:", "v11 = in", "if v11 b1 b4",
                "b4:", "ret 0");
        String both = "b0: v1 = in v2 = in jump b1 b1: show v1 show v2 v3 = v1 v1 = v2 v2 = v3 v4 = in if v4 b2 b1 b2: jump b1";
        SsaForge y = inSsa(both);
        passes("copies", y, 2, 3);
        due("two moves, and two rings", 8, y::plain);
        lists("one for both ways", y, "b0:", "v0 = in", "v1 = in", "v2 = v0", "v3 = v1", "jump b1", "b1:", "show v2", "show v3",
                "v7 = in", "if v7 b2 b3", "b2:", "v4 = v2", "v2 = v3", "v3 = v4", "jump b1", "b3:", "v4 = v2", "v2 = v3", "v3 = v4",
                "jump b1");
        SsaForge u = inSsa("b0: v9 = in v1 = in v2 = in jump b1 b1: show v1 v3 = v1 v1 = v2 v2 = v3 jump b1");
        passes("copies", u, 2, 3);
        due("five", 5, u::plain);
        lists("not v0, which is set and never used", u, "b0:", "v0 = in", "v1 = in", "v2 = in", "v3 = v1", "v4 = v2", "jump b1",
                "b1:", "show v3", "v5 = v3", "v3 = v4", "v4 = v5", "jump b1");
        String dead = "b0: v5 = in v6 = in if v5 b1 b2 b1: v9 = in jump b2 b2: if 0 b3 b4 b3: ret v9 b4: show v5 v7 = v5 v5 = v6 v6 = v7 "
                + "jump b4";
        SsaForge w = inSsa(dead);
        passes("v0 = 0, an if and a block", w, 1, 3);
        passes("copies", w, 2, 3);
        passes("numbers", w, 6, 6);
        lists("v3 is a phi that nothing uses", w, "b0:", "v0 = in", "v1 = in", "if v0 b1 b2", "b1:", "v2 = in", "jump b2", "b2:",
                "v3 = phi(b0 0, b1 v2)", "jump b3", "b3:", "v4 = phi(b2 v0, b3 v5)", "v5 = phi(b2 v1, b3 v4)", "show v4", "jump b3");
        due("seven", 7, w::plain);
        check("not v3", Boolean.toString(Call.listing(w).contains("v6 = v4\nv4 = v5\nv5 = v6\n")), "true");
        SsaForge z = inSsa(both);
        passes("copies", z, 2, 3);
        passes("numbers", z, 6, 5);
        due("behind all others", 8, z::plain);
        check("v5", Boolean.toString(Call.listing(z).contains("v5 = v2\nv2 = v3\nv3 = v5\n")), "true");
    }
}
