/** Each promise of the document by hand: ordinary inputs, the edges that it names, and wrong inputs. */
public final class PromisesTest extends Checks {
    private PromisesTest() {
    }

    public static void main(String[] args) {
        promise1NewObject();
        promise2Feed();
        promise3End();
        promise4Right();
        promise4Signs();
        promise4Wrong();
        promise4Rules();
        promise5Input();
        promise6Ssa();
        promise6Order();
        promise6Limits();
        promise7Wrong();
        promise7Constants();
        promise7Equals();
        promise7Dead();
        promise7Loops();
        promise7Joins();
        promise7Numbers();
        promise7Colours();
        promise8Plain();
        promise8Limits();
        promise9Run();
        promise9Operators();
        promise10Told();
        promise11Shown();
        promise12Count();
        promise13Block();
        promise14List();
        promise15Word();
        finish();
    }

    // ---- promises 1 to 3

    private static void promise1NewObject() {
        SsaForge x = new SsaForge();
        due("no program", -1, () -> x.count(0));
        for (int i = 1; i <= 7; i++) {
            int what = i;
            due("count of a new object", 0, () -> x.count(what));
        }
        for (int i = 0; i <= 3; i++) {
            int what = i;
            due("told of a new object", 0, () -> x.told(what));
        }
        due("no run yet", -1, () -> x.told(4));
        refused("nothing shown", IndexOutOfBoundsException.class, () -> x.shown(0));
        refused("no result", IndexOutOfBoundsException.class, () -> x.word(0));
        refused("nothing to list", IllegalStateException.class, x::list);
        refused("nothing to run", IllegalStateException.class, () -> x.run(1));
        refused("no block", java.util.NoSuchElementException.class, () -> x.block(0, 0));
        due("text", -1, () -> Call.read(x, "b0: v1 = in ret v1"));
        due("input is empty", 0, () -> x.run(10));
        due("nothing was read", 0, () -> x.told(3));
        due("0 behind the end", 0, () -> x.told(0));
    }

    private static void promise2Feed() {
        SsaForge x = new SsaForge();
        due("the first 20 bytes", 20, () -> x.feed(0x62303a20, 0x73686f77, 0x20312072, 0x65742037, 0x20202020));
        due("text fed", -1, x::text);
        due("run fed", 0, () -> x.run(9));
        due("answer fed", 7, () -> x.told(0));
        due("shown fed", 1, () -> x.shown(0));
        for (int i = 1; i <= 409; i++) {
            int length = 20 * i;
            due("feed", length, () -> x.feed(-1, -2, -3, -4, -5));
        }
        refusedWithoutChange("8200 bytes", IndexOutOfBoundsException.class, x, () -> x.feed(0, 0, 0, 0, 0));
        due("tape as before", 8180, () -> x.count(7));
        due("end", 8172, () -> x.end(8172));
        due("8192 bytes are fine", 8192, () -> x.feed(1, 2, 3, 4, 5));
        refused("a full tape", IndexOutOfBoundsException.class, () -> x.feed(0, 0, 0, 0, 0));
        due("all ints", 2048, x::input);
        due("an empty tape", 20, () -> x.feed(1, 2, 3, 4, 5));
    }

    private static void promise3End() {
        SsaForge x = new SsaForge();
        due("end of an empty tape", 0, () -> x.end(0));
        refused("more than it has", IllegalArgumentException.class, () -> x.end(1));
        x.feed(0x62303a72, 0x65742031, 0x40404040, 0, 0);
        refusedWithoutChange("-1", IllegalArgumentException.class, x, () -> x.end(-1));
        refusedWithoutChange("21", IllegalArgumentException.class, x, () -> x.end(21));
        refused("the least int", IllegalArgumentException.class, () -> x.end(Integer.MIN_VALUE));
        due("the whole tape", 20, () -> x.end(20));
        due("the first 8", 8, () -> x.end(8));
        refused("what is gone", IllegalArgumentException.class, () -> x.end(9));
        due("the first 8 are a text", -1, x::text);
        due("the tape is empty then", 0, () -> x.count(7));
    }

    // ---- promise 4

    private static void promise4Right() {
        SsaForge x = with("b0:v1=in v2=v1 show v2 v3=v1+2 if v3 b1 b2 b1:jump b2 b2:ret-7");
        due("form", 0, () -> x.count(0));
        due("reason", 0, () -> x.count(5));
        due("blocks", 3, () -> x.count(1));
        due("rows", 4, () -> x.count(2));
        lists("all rows", x, "b0:", "v1 = in", "v2 = v1", "show v2", "v3 = v1 + 2", "if v3 b1 b2", "b1:", "jump b2",
                "b2:", "ret -7");
        due("another", -1, () -> Call.read(x, "b0: ret 5"));
        due("in its place", 1, () -> x.count(1));
        due("a wrong one", 0, () -> Call.read(x, "5"));
        due("there is none", -1, () -> x.count(0));
        due("no blocks", 0, () -> x.count(1));
        due("a right one sets the reason back", -1, () -> Call.read(x, "b0: ret 5"));
        due("reason", 0, () -> x.count(5));
    }

    private static void promise4Signs() {
        lists("blanks and remarks", with("\t\r\n ;remark\nb0;x\n:;y\nret;-9\n1;the end"), "b0:", "ret 1");
        lists("no blanks", with("b0:v1=1v2=v1<<2show v2ret3b1:ret-1"), "b0:", "v1 = 1", "v2 = v1 << 2", "show v2", "ret 3",
                "b1:", "ret -1");
        lists("zeros in front", with("b00: v007 = 0012 - 003 ret -00"), "b0:", "v7 = 12 - 3", "ret 0");
        lists("the greatest", with("b0: v199 = 2147483647 v0 = -2147483648 ret v199"), "b0:", "v199 = 2147483647",
                "v0 = -2147483648", "ret v199");
        lists("minus", with("b0: v1 = v2 -3 v1 = 4 -3 v1 = v2--3 v1 = - 3 ret 0".replace("= - 3", "= -3")), "b0:",
                "v1 = v2 - 3", "v1 = 4 - 3", "v1 = v2 - -3", "v1 = -3", "ret 0");
        lists("minus behind a remark", with("b0: v1 = v2 ; is\n -3 ret 0"), "b0:", "v1 = v2 - 3", "ret 0");
        lists("minus elsewhere", with("b0: show -1 if -2 b1 b1 b1: ret -3"), "b0:", "show -1", "if -2 b1 b1", "b1:",
                "ret -3");
        String all = "+ - * / % & | ^ << >> < <= == !=";
        StringBuilder text = new StringBuilder("b0:\n");
        for (String op : all.split(" ")) {
            text.append("v1 = v2 ").append(op).append(" v3\n");
        }
        text.append("ret v1\n");
        check("operators", Call.listing(with(text.toString())), text.toString());
        check("without blanks", Call.listing(with(text.toString().replaceAll("(v.) = (v.) (\\S+) (v.)", "$1=$2$3$4"))),
                text.toString());
    }

    private static void promise4Wrong() {
        wrongText("", 0, 1);
        wrongText(" ; nothing", 10, 1);
        wrongText("b0", 2, 1);
        wrongText("b0:", 3, 1);
        wrongText("b0: ret", 7, 1);
        wrongText("b0: ret ", 8, 1);
        wrongText("b0: v1 = 2", 10, 1);
        wrongText("b0: if v1 b0 ", 13, 1);
        wrongText("ret 1", 0, 1);
        wrongText("v1 = 2", 0, 1);
        wrongText("b0 ret 1", 3, 1);
        wrongText("b0: ret 1 ret 2", 10, 1);
        wrongText("b0: ret in", 8, 1);
        wrongText("b0: ret b0", 8, 1);
        wrongText("b0: jump 1", 9, 1);
        wrongText("b0: jump v1", 9, 1);
        wrongText("b0: if b1 b1 b1", 7, 1);
        wrongText("b0: show in ret 1", 9, 1);
        wrongText("b0: v1 == 2 ret 1", 7, 1);
        wrongText("b0: v1 = = 2 ret 1", 9, 1);
        wrongText("b0: v1 = in + 2 ret 1", 12, 1);
        wrongText("b0: v1 = v2 + in ret 1", 14, 1);
        wrongText("b0: v1 = 2 + 3 + 4 ret 1", 15, 1);
        wrongText("b0: v1 = 2 + 3 -4 ret 1", 15, 1);
        wrongText("b0: v1 = - 3 ret 1", 9, 1);
        wrongText("b0: v1 = v2 - - 3 ret 1", 14, 1);
        wrongText("b0: v1 = phi ret 1", 9, 1);
        wrongText("b0: v1 = ( ret 1", 9, 1);
        wrongText("b0: ret 1, b1: ret 2", 9, 1);
        wrongText("b0: ret 1)", 9, 1);
        wrongText("b0: v200 = 1 ret 1", 4, 1);
        wrongText("b0: v99999999999999999999 = 1 ret 1", 4, 1);
        wrongText("b0: ret v200", 8, 1);
        wrongText("b60: ret 1", 0, 1);
        wrongText("b0: jump b60", 9, 1);
        wrongText("b0: ret 2147483648", 8, 1);
        wrongText("b0: ret -2147483649", 8, 1);
        wrongText("b0: ret 99999999999999999999999", 8, 1);
        wrongText("b0: v1 = v2 -2147483648 ret 1", 13, 1);
        wrongText("b0: v = 1 ret 1", 4, 1);
        wrongText("b: ret 1", 0, 1);
        wrongText("b0: vx1 = 1 ret 1", 4, 1);
        wrongText("b0: v1x = 1 ret 1", 6, 1);
        wrongText("b0: return 1", 4, 1);
        wrongText("b0: re t 1", 4, 1);
        wrongText("b0: retv1", 4, 1);
        wrongText("b0: RET 1", 4, 1);
        wrongText("b0: v1 = 1 > 2 ret 1", 11, 1);
        wrongText("b0: v1 = 1 >= 2 ret 1", 11, 1);
        wrongText("b0: v1 = 1 ! 2 ret 1", 11, 1);
        wrongText("b0: v1 = 1 <<= 2 ret 1", 13, 1);
        wrongText("b0: ret 1 \u0000", 10, 1);
        wrongText("b0: ret 1 \u00e9", 10, 1);
        wrongText("b0: ret 1\u000b", 9, 1);
    }

    private static void promise4Rules() {
        wrongText("b1: ret 1", 0, 2);
        wrongText("b0: ret 1 b2: ret 2", 10, 2);
        wrongText("b0: ret 1 b0: ret 2", 10, 2);
        wrongText("b0: jump b0", 9, 3);
        wrongText("b0: jump b1", 9, 3);
        wrongText("b0: if v1 b1 b0 b1: ret 1", 13, 3);
        wrongText("b0: if v1 b2 b1 b1: ret 1", 10, 3);
        wrongText("b0: ret 1 b1: jump b7 b3: ret 1", 19, 3);
        wrongText("b0: jump b2 b2: ret 1", 12, 2);
        wrongText("b0: ret 1 b2: jump b7", 10, 2);
        wrongText("b1: jump b9 b2: ret", 19, 1);
        String rows = repeat(200, "v1 = 2\n");
        SsaForge x = with("b0:" + rows + "ret 1");
        due("200 rows", 200, () -> x.count(2));
        wrongText("b0:" + rows + " show 1 ret 1", 3 + rows.length() + 1, 4);
        wrongText("b0:" + rows + "v2 = in show 1 ret 1", 3 + rows.length(), 4);
        wrongText("b0:" + rows + "jump b3 b1: v1 = 3 ret 1", 3 + rows.length() + 5, 3);
        wrongText("b0:" + rows + "show 1 jump b3", 3 + rows.length(), 4);
        wrongText("b0:" + rows + "show 1 jump", 3 + rows.length() + 11, 1);
        wrongText("b0:" + repeat(2046, "v0=0") + "ret 1", 3 + 800, 4);
        wrongText(repeat(1170, "b0:ret0"), 7, 2);
        SsaForge y = with(each(60, i -> "b" + i + ": ret " + i + "\n"));
        due("60 blocks", 60, () -> y.count(1));
    }

    private static void promise5Input() {
        SsaForge x = with("b0: v1 = in v2 = in v3 = in show v1 show v2 show v3 ret 0");
        due("two ints", 2, () -> Call.giveInput(x, -2, 0x01020304));
        due("run", 0, () -> x.run(100));
        due("first", -2, () -> x.shown(0));
        due("second", 0x01020304, () -> x.shown(1));
        due("behind the end", 0, () -> x.shown(2));
        due("read", 2, () -> x.told(3));
        due("again", 0, () -> x.run(100));
        due("from the first on", -2, () -> x.shown(0));
        x.feed(5, 6, 0x07070707, 8, 9);
        x.end(11);
        due("what is left goes", 2, x::input);
        due("the tape is empty", 0, () -> x.count(7));
        x.run(100);
        due("the new one", 6, () -> x.shown(1));
        due("not the old one", 0, () -> x.shown(2));
        due("the program stays", 0, () -> x.count(0));
        x.feed(5, 6, 7, 8, 9);
        x.end(3);
        due("less than one", 0, x::input);
        x.run(100);
        due("nothing to read", 0, () -> x.told(3));
    }

    // ---- promise 6

    private static void promise6Ssa() {
        SsaForge x = with(Texts.DIAMOND);
        due("a phi", 1, x::ssa);
        due("form", 1, () -> x.count(0));
        due("phis", 1, () -> x.count(3));
        lists("diamond", x, "b0:", "v0 = in", "if v0 b1 b2", "b1:", "v1 = 1", "jump b3", "b2:", "v2 = 2", "jump b3",
                "b3:", "v3 = phi(b1 v1, b2 v2)", "show v3", "ret v0");
        refusedWithoutChange("twice", IllegalStateException.class, x, x::ssa);
        SsaForge y = with(Texts.COUNTDOWN);
        due("two phis", 2, y::ssa);
        lists("loop", y, "b0:", "v0 = 0", "v1 = 3", "jump b1", "b1:", "v2 = phi(b0 v1, b2 v5)", "v3 = phi(b0 v0, b2 v4)",
                "if v2 b2 b3", "b2:", "v4 = v3 + v2", "v5 = v2 - 1", "jump b1", "b3:", "ret v3");
        lists("zeros by numbers", inSsa("b0: v9 = v3 + v1 v3 = v9 + v2 ret v3"), "b0:", "v0 = 0", "v1 = 0", "v2 = 0",
                "v3 = v2 + v0", "v4 = v3 + v1", "ret v4");
        lists("no phi for what is not live", inSsa("b0: v1 = in if v1 b1 b2 b1: v1 = 5 jump b2 b2: v1 = 6 ret v1"), "b0:",
                "v0 = in", "if v0 b1 b2", "b1:", "v1 = 5", "jump b2", "b2:", "v2 = 6", "ret v2");
        lists("blocks that are not reached", inSsa("b0: jump b2 b1: v1 = 3 jump b2 b2: ret v1 b3: jump b1"), "b0:", "v0 = 0",
                "jump b1", "b1:", "ret v0");
        refused("no program", IllegalStateException.class, () -> new SsaForge().ssa());
        SsaForge z = inSsa(Texts.DIAMOND);
        z.pass(7);
        refused("coloured", IllegalStateException.class, z::ssa);
        z.plain();
        due("plain again", 1, z::ssa);
    }

    /** b4 is under b1 and b2, b3 under b0: so numbers go b0 b1 b4 b2 b3 where the tree says so. */
    private static void promise6Order() {
        String text = "b0: v1 = 1 if v1 b1 b2 b1: v2 = 2 jump b4 b2: v3 = 3 jump b3 b3: v4 = 4 ret v4 b4: v5 = 5 jump b3";
        lists("order", inSsa(text), "b0:", "v0 = 1", "if v0 b1 b2", "b1:", "v1 = 2", "jump b4", "b2:", "v3 = 3", "jump b3",
                "b3:", "v4 = 4", "ret v4", "b4:", "v2 = 5", "jump b3");
        String loop = "b0: v1 = in jump b1 b1: v1 = v1 - 1 if v1 b1 b2 b2: ret v1";
        lists("a block that is its own frontier", inSsa(loop), "b0:", "v0 = in", "jump b1", "b1:",
                "v1 = phi(b0 v0, b1 v2)", "v2 = v1 - 1", "if v2 b1 b2", "b2:", "ret v2");
        String both = "b0: v1 = in if v1 b1 b1 b1: ret v1";
        lists("both goals are one", inSsa(both), "b0:", "v0 = in", "if v0 b1 b1", "b1:", "ret v0");
        String again = "b0: if v0 b1 b2 b1: v1 = 1 jump b3 b2: jump b3 b3: if v0 b4 b5 b4: jump b6 b5: v0 = 2 jump b6 b6: "
                + "show v0 ret v1";
        lists("a phi for each join that needs it", inSsa(again), "b0:", "v0 = 0", "v1 = 0", "if v0 b1 b2", "b1:", "v2 = 1",
                "jump b3", "b2:", "jump b3", "b3:", "v3 = phi(b1 v2, b2 v1)", "if v0 b4 b5", "b4:", "jump b6", "b5:",
                "v4 = 2", "jump b6", "b6:", "v5 = phi(b4 v0, b5 v4)", "show v5", "ret v3");
    }

    private static void promise6Limits() {
        SsaForge x = with(Texts.knots(24, 38, ""));
        int phis = x.ssa();
        int set = x.pass(6);
        // 38 rows v = in; v23 is set in b24 alone, through which all must go, so 37 are live at the beginning
        due("phis and rows that set", set, () -> phis + 37 + 38);
        int room = 1000 - set;
        SsaForge y = with(Texts.knots(24, 38, repeat(room, "v199=1")));
        due("1000 registers", phis, y::ssa);
        due("are all there", 1000, () -> y.pass(6));
        SsaForge z = with(Texts.knots(24, 38, repeat(room + 1, "v199=1")));
        refusedWithoutChange("1001 registers", ArithmeticException.class, z, z::ssa);
        due("still plain", 0, () -> z.count(0));
        due("all its rows", 38 + 38 + room + 1, () -> z.count(2));
        String behind = " b26: " + repeat(9, "v0=1") + "ret 0";
        SsaForge u = with(Texts.knots(24, 38, repeat(room, "v199=1")) + behind);
        due("rows that are not reached do not count", phis, u::ssa);
        SsaForge w = with(Texts.knots(24, 38, repeat(room + 1, "v199=1")) + behind);
        refusedWithoutChange("blocks stay, too", ArithmeticException.class, w, w::ssa);
        due("blocks stay", 27, () -> w.count(1));
    }

    // ---- promise 7

    private static void promise7Wrong() {
        SsaForge x = new SsaForge();
        refused("no pass 0", IllegalArgumentException.class, () -> x.pass(0));
        refused("no pass 8", IllegalArgumentException.class, () -> x.pass(8));
        refused("no program", IllegalStateException.class, () -> x.pass(1));
        SsaForge y = with(Texts.DIAMOND);
        for (int i = 1; i <= 7; i++) {
            int k = i;
            refusedWithoutChange("plain", IllegalStateException.class, y, () -> y.pass(k));
        }
        y.ssa();
        refusedWithoutChange("no pass -1", IllegalArgumentException.class, y, () -> y.pass(-1));
        y.pass(7);
        for (int i = 1; i <= 7; i++) {
            int k = i;
            refusedWithoutChange("coloured", IllegalStateException.class, y, () -> y.pass(k));
        }
    }

    private static void promise7Constants() {
        SsaForge x = inSsa(Texts.COUNTDOWN);
        due("two rows", 2, () -> x.pass(1));
        lists("loop", x, "b0:", "jump b1", "b1:", "v2 = phi(b0 3, b2 v5)", "v3 = phi(b0 0, b2 v4)", "if v2 b2 b3", "b2:",
                "v4 = v3 + v2", "v5 = v2 - 1", "jump b1", "b3:", "ret v3");
        due("nothing more", 0, () -> x.pass(1));
        SsaForge y = inSsa("b0: v1 = 1 if v1 b1 b2 b1: v2 = v1 + 4 jump b3 b2: v2 = in v9 = 4 jump b3 b3: show v2 ret v2");
        // v0 = 1, v1 = v0 + 4 and the phi go, the if is folded, b2 is dropped
        due("rows, a phi, an if and a block", 5, () -> y.pass(1));
        lists("only the way that can be gone", y, "b0:", "jump b1", "b1:", "jump b2", "b2:", "show 5", "ret 5");
        SsaForge z = inSsa("b0: v1 = 7 v2 = v1 / 0 v3 = v1 % 0 v4 = v1 / 2 show v2 show v3 ret v4");
        due("not what has no answer", 2, () -> z.pass(1));
        lists("by 0", z, "b0:", "v1 = 7 / 0", "v2 = 7 % 0", "show v1", "show v2", "ret 3");
        SsaForge u = inSsa("b0: v1 = in v2 = v1 * 0 if v2 b1 b2 b1: ret 1 b2: ret 2");
        due("any stays any", 0, () -> u.pass(1));
        SsaForge w = inSsa("b0: v1 = in if v1 b1 b2 b1: v2 = 6 jump b3 b2: v2 = 6 jump b3 b3: if v2 b4 b5 b4: ret v2 b5: ret 0");
        due("one number on both ways", 5, () -> w.pass(1));
        lists("one number", w, "b0:", "v0 = in", "if v0 b1 b2", "b1:", "jump b3", "b2:", "jump b3", "b3:", "jump b4", "b4:",
                "ret 6");
        SsaForge v = inSsa("b0: v1 = in v2 = 0 if v1 b1 b2 b1: if v2 b2 b3 b2: v3 = v1 jump b4 b3: v3 = 5 jump b4 b4: show v3 "
                + "ret 0");
        due("a phi loses what is of no pred", 3, () -> v.pass(1));
        lists("no block is dropped", v, "b0:", "v0 = in", "if v0 b1 b2", "b1:", "jump b3", "b2:", "v3 = v0", "jump b4", "b3:",
                "jump b4", "b4:", "v4 = phi(b2 v3, b3 5)", "show v4", "ret 0");
        SsaForge t = inSsa("b0: v1 = in v2 = 0 v3 = 1 if v1 b1 b2 b1: v3 = 2 if v2 b2 b3 b2: ret v3 b3: ret 9");
        due("the phi keeps one", 5, () -> t.pass(1));
        lists("phi of one", t, "b0:", "v0 = in", "if v0 b1 b2", "b1:", "jump b3", "b2:", "ret 1", "b3:", "ret 9");
        SsaForge s = inSsa("b0: v1 = in v3 = v1 if v1 b1 b2 b1: v3 = in if 0 b2 b3 b2: ret v3 b3: ret 9");
        due("folded alone", 1, () -> s.pass(1));
        lists("phi of one operand", s, "b0:", "v0 = in", "v1 = v0", "if v0 b1 b2", "b1:", "v2 = in", "jump b3", "b2:",
                "v3 = phi(b0 v1)", "ret v3", "b3:", "ret 9");
        SsaForge r = inSsa("b0: v1 = 3 jump b1 b1: v2 = v1 - 3 v1 = v2 + 3 if v2 b1 b2 b2: ret v1");
        due("what a loop leaves as it is", 5, () -> r.pass(1));
        lists("a loop that is none", r, "b0:", "jump b1", "b1:", "jump b2", "b2:", "ret 3");
        SsaForge q = inSsa("b0: if 5 b1 b1 b1: ret 1");
        due("one goal twice", 1, () -> q.pass(1));
        lists("a jump", q, "b0:", "jump b1", "b1:", "ret 1");
    }

    private static void promise7Equals() {
        SsaForge x = inSsa("b0: v1 = in v2 = v1 + 3 v3 = 3 + v1 v4 = v1 - 3 v5 = 3 - v1 v6 = v1 - 3 v7 = v6 show v3 show v5 "
                + "show v7 ret v2");
        due("three", 3, () -> x.pass(2));
        lists("in one block", x, "b0:", "v0 = in", "v1 = v0 + 3", "v3 = v0 - 3", "v4 = 3 - v0", "show v1", "show v4",
                "show v3", "ret v1");
        for (String op : "+ * & | ^ == !=".split(" ")) {
            SsaForge y = inSsa("b0: v1 = in v2 = in v3 = v1 " + op + " v2 v4 = v2 " + op + " v1 ret v4");
            due("the other way round " + op, 1, () -> y.pass(2));
        }
        for (String op : "- / % << >> < <=".split(" ")) {
            SsaForge y = inSsa("b0: v1 = in v2 = in v3 = v1 " + op + " v2 v4 = v2 " + op + " v1 v5 = v1 " + op + " v2 ret v4");
            due("not the other way round " + op, 1, () -> y.pass(2));
        }
        SsaForge z = inSsa("b0: v1 = in v2 = v1 * v1 if v1 b1 b2 b1: v3 = v1 * v1 v4 = v1 - 1 jump b3 b2: v3 = v1 * v1 v4 = v1 - 1 "
                + "jump b3 b3: v5 = v1 - 1 show v3 show v4 ret v5");
        due("by what dominates", 2, () -> z.pass(2));
        lists("not by what does not", z, "b0:", "v0 = in", "v1 = v0 * v0", "if v0 b1 b2", "b1:", "v3 = v0 - 1", "jump b3",
                "b2:", "v5 = v0 - 1", "jump b3", "b3:", "v6 = phi(b1 v1, b2 v1)", "v7 = phi(b1 v3, b2 v5)", "v8 = v0 - 1",
                "show v6", "show v7", "ret v8");
        due("the phi next time", 1, () -> z.pass(2));
        lists("by its one operand", z, "b0:", "v0 = in", "v1 = v0 * v0", "if v0 b1 b2", "b1:", "v3 = v0 - 1", "jump b3",
                "b2:", "v5 = v0 - 1", "jump b3", "b3:", "v7 = phi(b1 v3, b2 v5)", "v8 = v0 - 1", "show v1", "show v7",
                "ret v8");
        SsaForge u = inSsa("b0: v1 = in v2 = 5 v3 = 5 if v1 b1 b2 b1: v2 = 6 v3 = 6 jump b2 b2: show v2 show v3 ret v2");
        due("numbers", 4, () -> u.pass(2));
        lists("phis are looked at as they were", u, "b0:", "v0 = in", "if v0 b1 b2", "b1:", "jump b2", "b2:",
                "v5 = phi(b0 5, b1 6)", "v6 = phi(b0 5, b1 6)", "show v5", "show v6", "ret v5");
        due("like phis", 1, () -> u.pass(2));
        lists("the first stays", u, "b0:", "v0 = in", "if v0 b1 b2", "b1:", "jump b2", "b2:", "v5 = phi(b0 5, b1 6)",
                "show v5", "show v5", "ret v5");
        SsaForge w = inSsa("b0: v1 = in v2 = in jump b1 b1: v1 = v1 - 1 if v1 b2 b3 b2: v3 = v2 v2 = v3 jump b1 b3: ret v2");
        due("copies", 2, () -> w.pass(2));
        due("itself or one other", 1, () -> w.pass(2));
        lists("a loop", w, "b0:", "v0 = in", "v1 = in", "jump b1", "b1:", "v2 = phi(b0 v0, b2 v4)", "v4 = v2 - 1",
                "if v4 b2 b3", "b2:", "jump b1", "b3:", "ret v1");
        SsaForge t = inSsa("b0: v1 = in v2 = in ret v2");
        due("in is never like in", 0, () -> t.pass(2));
    }

    private static void promise7Dead() {
        SsaForge x = inSsa("b0: v1 = in v2 = in v3 = v2 + 1 v4 = v3 * 2 v5 = 8 / 2 v6 = 8 / 0 v7 = v1 % v2 v8 = v1 / 3 v9 = 4 "
                + "show v9 ret 0");
        due("rows that nothing needs", 4, () -> x.pass(3));
        lists("dead", x, "b0:", "v0 = in", "v1 = in", "v5 = 8 / 0", "v6 = v0 % v1", "v8 = 4", "show v8", "ret 0");
        SsaForge y = inSsa("b0: v1 = 9 v2 = 1 jump b1 b1: v1 = v1 - 1 v2 = v2 + v2 if v1 b1 b2 b2: ret v1");
        due("phis that need one another only", 3, () -> y.pass(3));
        lists("dead phis", y, "b0:", "v0 = 9", "jump b1", "b1:", "v2 = phi(b0 v0, b1 v4)", "v4 = v2 - 1", "if v4 b1 b2",
                "b2:", "ret v4");
        due("nothing more", 0, () -> y.pass(3));
        SsaForge z = inSsa("b0: v1 = 3 v2 = 4 v3 = v1 / v2 ret 0");
        due("what a division needs", 0, () -> z.pass(3));
    }

    private static void promise7Loops() {
        String text = "b0: v1 = in v2 = in jump b1 b1: v9 = v1 + v2 v1 = v1 - 1 v3 = v4 + 1 v4 = v2 * 2 v5 = v2 / 2 v6 = v2 / v5 "
                + "v7 = v2 % 0 v8 = 3 show v8 if v1 b1 b2 b2: ret v3";
        SsaForge x = inSsa(text);
        due("three", 3, () -> x.pass(4));
        lists("rows that need not be in the loop", x, "b0:", "v0 = 0", "v1 = in", "v2 = in", "v8 = v2 * 2", "v9 = v2 / 2",
                "v12 = 3", "jump b1", "b1:", "v3 = phi(b0 v1, b1 v6)", "v4 = phi(b0 v0, b1 v8)", "v5 = v3 + v2",
                "v6 = v3 - 1", "v7 = v4 + 1", "v10 = v2 / v9", "v11 = v2 % 0", "show v12", "if v6 b1 b2", "b2:", "ret v7");
        String nest = "b0: v1 = in v2 = in jump b1 b1: v3 = in jump b2 b2: v4 = v1 + v2 v5 = v4 + v3 v6 = v5 + 1 show v6 "
                + "if v3 b2 b3 b3: if v5 b1 b4 b4: ret 0";
        SsaForge y = inSsa(nest);
        due("the inner loop first", 4, () -> y.pass(4));
        lists("nested loops", y, "b0:", "v0 = in", "v1 = in", "v3 = v0 + v1", "jump b1", "b1:", "v2 = in", "v4 = v3 + v2",
                "v5 = v4 + 1", "jump b2", "b2:", "show v5", "if v2 b2 b3", "b3:", "if v4 b1 b4", "b4:", "ret 0");
        SsaForge z = inSsa("b0: v1 = in if v1 b1 b2 b1: v2 = v1 + 1 show v2 if v2 b1 b2 b2: ret 0");
        due("the pred does not end with jump", 0, () -> z.pass(4));
        SsaForge u = inSsa("b0: v1 = in if v1 b1 b2 b1: jump b3 b2: jump b3 b3: v2 = v1 + 1 show v2 if v2 b3 b4 b4: ret 0");
        due("two preds outside", 0, () -> u.pass(4));
        SsaForge w = inSsa("b0: v1 = in jump b2 b1: v3 = v2 + 1 show v3 if v1 b2 b3 b2: v2 = v1 + 1 jump b1 b3: ret 0");
        due("again from the first block", 2, () -> w.pass(4));
        lists("what the first needs comes first", w, "b0:", "v0 = in", "v1 = v0 + 1", "v2 = v1 + 1", "jump b2", "b1:",
                "show v2", "if v0 b2 b3", "b2:", "jump b1", "b3:", "ret 0");
        SsaForge t = inSsa("b0: v1 = in jump b3 b1: v2 = v1 + 5 show v2 if v1 b1 b2 b2: ret v1 b3: v9 = 7 jump b1");
        due("to a pred with a greater number", 1, () -> t.pass(4));
        lists("to the end of b3", t, "b0:", "v0 = in", "jump b3", "b1:", "show v2", "if v0 b1 b2", "b2:", "ret v0", "b3:",
                "v1 = 7", "v2 = v0 + 5", "jump b1");
    }

    private static void promise7Joins() {
        SsaForge x = inSsa("b0: v1 = in jump b1 b1: v2 = v1 + 1 jump b2 b2: show v2 if v1 b3 b4 b3: v1 = 5 jump b4 b4: ret v1");
        due("two", 2, () -> x.pass(5));
        lists("joined", x, "b0:", "v0 = in", "v1 = v0 + 1", "show v1", "if v0 b1 b2", "b1:", "v2 = 5", "jump b2", "b2:",
                "v3 = phi(b0 v0, b1 v2)", "ret v3");
        SsaForge y = inSsa("b0: v1 = in v2 = v1 if v1 b1 b2 b1: v2 = in if 0 b2 b3 b2: show v2 jump b4 b3: jump b2 b4: ret v2");
        y.pass(1);
        due("phis have the other pred", 2, () -> y.pass(5));
        lists("b1 and b3, b2 and b4", y, "b0:", "v0 = in", "v1 = v0", "if v0 b1 b2", "b1:", "v2 = in", "jump b2", "b2:",
                "v3 = phi(b0 v1, b1 v2)", "show v3", "ret v3");
        SsaForge z = inSsa("b0: v1 = in if v1 b1 b1 b1: ret v1");
        due("one goal twice", 1, () -> z.pass(5));
        lists("a jump that is not joined", z, "b0:", "v0 = in", "jump b1", "b1:", "ret v0");
        due("but next time", 1, () -> z.pass(5));
        lists("joined then", z, "b0:", "v0 = in", "ret v0");
        SsaForge w = inSsa("b0: v3 = in v1 = v3 jump b3 b1: show v1 ret v2 b2: v2 = v1 + 1 jump b1 b3: v1 = v1 - 1 jump b2");
        due("rows in the order of the ways", 3, () -> w.pass(5));
        lists("one block", w, "b0:", "v0 = in", "v1 = v0", "v2 = v1 - 1", "v3 = v2 + 1", "show v2", "ret v3");
        SsaForge s = inSsa("b0: v1 = in jump b1 b1: v2 = v1 if 1 b2 b3 b2: v2 = v2 + 1 jump b4 b3: v2 = in jump b4 b4: show v2 "
                + "jump b4");
        due("folded", 2, () -> s.pass(1));
        due("a loop is not joined to itself", 2, () -> s.pass(5));
        lists("phis with one operand", s, "b0:", "v0 = in", "v1 = v0", "v2 = v1 + 1", "jump b1", "b1:",
                "v4 = phi(b0 v2, b1 v4)", "show v4", "jump b1");
    }

    private static void promise7Numbers() {
        SsaForge x = inSsa(Texts.COUNTDOWN);
        x.pass(1);
        due("four", 4, () -> x.pass(6));
        lists("numbers", x, "b0:", "jump b1", "b1:", "v0 = phi(b0 3, b2 v3)", "v1 = phi(b0 0, b2 v2)", "if v0 b2 b3", "b2:",
                "v2 = v1 + v0", "v3 = v0 - 1", "jump b1", "b3:", "ret v1");
        due("none", 0, () -> inSsa("b0: show 3 ret 0").pass(6));
        SsaForge y = inSsa("b0: v1 = in jump b2 b1: ret v2 b2: v2 = v1 + 1 jump b1");
        due("by the tree", 2, () -> y.pass(6));
        lists("not by the blocks' numbers", y, "b0:", "v0 = in", "jump b2", "b1:", "ret v1", "b2:", "v1 = v0 + 1", "jump b1");
    }

    private static void promise7Colours() {
        SsaForge x = inSsa(Texts.COUNTDOWN);
        due("two", 2, () -> x.pass(7));
        due("form", 2, () -> x.count(0));
        lists("colours", x, "b0:", "v0 = 0", "v1 = 3", "jump b1", "b1:", "v0 = phi(b0 v1, b2 v0)", "v1 = phi(b0 v0, b2 v1)",
                "if v0 b2 b3", "b2:", "v1 = v1 + v0", "v0 = v0 - 1", "jump b1", "b3:", "ret v1");
        due("still runs", 0, () -> x.run(1000));
        due("the same", 6, () -> x.told(0));
        SsaForge y = inSsa("b0: v1 = in v2 = in v3 = in v4 = v1 + v2 v5 = 9 show v4 ret v3");
        due("what is dead behind its row has a colour there", 3, () -> y.pass(7));
        lists("dead", y, "b0:", "v0 = in", "v1 = in", "v2 = in", "v0 = v0 + v1", "v1 = 9", "show v0", "ret v2");
        due("none", 0, () -> inSsa("b0: ret 3").pass(7));
        // both phis are there at once, though the first is used by itself only
        SsaForge z = inSsa("b0: v1 = in v2 = in jump b1 b1: v1 = v1 + 1 v2 = v2 - 1 if v2 b1 b2 b2: ret v2");
        due("phis", 2, () -> z.pass(7));
        SsaForge u = inSsa("b0: v1 = in v2 = in jump b1 b1: v3 = v1 v1 = v2 v2 = v3 show v1 if v1 b1 b2 b2: ret 0");
        u.pass(2);
        u.pass(3);
        due("a swap", 2, () -> u.pass(7));
        lists("swapped", u, "b0:", "v0 = in", "v1 = in", "jump b1", "b1:", "v0 = phi(b0 v0, b1 v1)", "v1 = phi(b0 v1, b1 v0)",
                "show v1", "if v1 b1 b2", "b2:", "ret 0");
    }

    // ---- promise 8

    private static void promise8Plain() {
        SsaForge x = inSsa(Texts.DIAMOND);
        due("two rows", 2, x::plain);
        due("form", 0, () -> x.count(0));
        due("no phis", 0, () -> x.count(3));
        lists("diamond", x, "b0:", "v0 = in", "if v0 b1 b2", "b1:", "v1 = 1", "v3 = v1", "jump b3", "b2:", "v2 = 2",
                "v3 = v2", "jump b3", "b3:", "show v3", "ret v0");
        refusedWithoutChange("plain already", IllegalStateException.class, x, x::plain);
        refused("no program", IllegalStateException.class, () -> new SsaForge().plain());
        SsaForge y = inSsa("b0: v1 = in v2 = in jump b1 b1: v3 = v1 v1 = v2 v2 = v3 show v1 if v1 b1 b2 b2: ret v2");
        y.pass(2);
        due("a swap on a way of its own", 5, y::plain);
        lists("swap", y, "b0:", "v0 = in", "v1 = in", "v2 = v0", "v3 = v1", "jump b1", "b1:", "show v3", "if v3 b3 b2", "b2:",
                "ret v2", "b3:", "v4 = v2", "v2 = v3", "v3 = v4", "jump b1");
        SsaForge z = inSsa("b0: v1 = in v2 = in jump b1 b1: v3 = v1 v1 = v2 v2 = v3 show v1 if v1 b1 b2 b2: ret v2");
        z.pass(2);
        z.pass(7);
        due("only what moves", 3, z::plain);
        lists("coloured swap", z, "b0:", "v0 = in", "v1 = in", "jump b1", "b1:", "show v1", "if v1 b3 b2", "b2:", "ret v0",
                "b3:", "v2 = v0", "v0 = v1", "v1 = v2", "jump b1");
        SsaForge u = inSsa(Texts.COUNTDOWN);
        u.pass(7);
        due("nothing to move from b2", 3, u::plain);
        lists("a swap in b0", u, "b0:", "v0 = 0", "v1 = 3", "v2 = v0", "v0 = v1", "v1 = v2", "jump b1", "b1:", "if v0 b2 b3",
                "b2:", "v1 = v1 + v0", "v0 = v0 - 1", "jump b1", "b3:", "ret v1");
        SsaForge v = inSsa("b0: v1 = in jump b1 b1: v1 = v1 - 1 if v1 b1 b2 b2: ret v1");
        v.pass(7);
        due("nothing to move", 0, v::plain);
        lists("no new block", v, "b0:", "v0 = in", "jump b1", "b1:", "v0 = v0 - 1", "if v0 b1 b2", "b2:", "ret v0");
        SsaForge w = inSsa("b0: v1 = in v2 = 1 if v1 b1 b2 b1: v2 = 2 jump b2 b2: v3 = v2 if v1 b3 b4 b3: v3 = 7 jump b4 b4: "
                + "show v2 ret v3");
        due("new blocks by the block's number", 4, w::plain);
        lists("two new blocks", w, "b0:", "v0 = in", "v1 = 1", "if v0 b1 b5", "b1:", "v2 = 2", "v3 = v2", "jump b2", "b2:",
                "v4 = v3", "if v0 b3 b6", "b3:", "v5 = 7", "v6 = v5", "jump b4", "b4:", "show v3", "ret v6", "b5:",
                "v3 = v1", "jump b2", "b6:", "v6 = v4", "jump b4");
        promise8Chains();
    }

    private static void promise8Chains() {
        // a chain: what nobody needs any more is set first
        SsaForge x = inSsa("b0: v1 = 1 v2 = 2 v3 = 3 jump b1 b1: show v3 v1 = v2 v2 = v3 v3 = 9 if v1 b1 b2 b2: ret v1");
        x.pass(2);
        x.pass(1);
        due("rows", 4, x::plain);
        lists("a chain", x, "b0:", "v3 = 2", "v4 = 3", "jump b1", "b1:", "show v4", "if v3 b3 b2", "b2:", "ret v3", "b3:",
                "v3 = v4", "v4 = 9", "jump b1");
        SsaForge w = inSsa("b0: v1 = in v2 = in jump b1 b1: show v2 v2 = v1 v1 = 9 jump b1");
        w.pass(2);
        due("rows", 4, w::plain);
        lists("the second first", w, "b0:", "v0 = in", "v1 = in", "v2 = v0", "v3 = v1", "jump b1", "b1:", "show v3", "v3 = v2",
                "v2 = 9", "jump b1");
        // two rings on one way: the helper is free again for the second
        SsaForge y = inSsa("b0: v1 = in v2 = in v3 = in v4 = in jump b1 b1: v5 = v1 v1 = v2 v2 = v5 v6 = v3 v3 = v4 v4 = v6 "
                + "show v1 show v2 show v3 show v4 jump b1");
        y.pass(2);
        due("four and twice three", 10, y::plain);
        lists("two rings", y, "b0:", "v0 = in", "v1 = in", "v2 = in", "v3 = in", "v4 = v0", "v5 = v1", "v6 = v2", "v7 = v3",
                "jump b1", "b1:", "show v5", "show v4", "show v7", "show v6", "v8 = v4", "v4 = v5", "v5 = v8", "v8 = v6",
                "v6 = v7", "v7 = v8", "jump b1");
        SsaForge z = inSsa("b0: v9 = 1 v1 = in v2 = in jump b1 b1: v3 = v1 v1 = v2 v2 = v3 show v1 jump b1");
        z.pass(2);
        z.pass(3);
        due("one goal", 5, z::plain);
        lists("the least register that is nowhere", z, "b0:", "v1 = in", "v2 = in", "v3 = v1", "v4 = v2", "jump b1", "b1:",
                "show v4", "v0 = v3", "v3 = v4", "v4 = v0", "jump b1");
        SsaForge u = inSsa("b0: v1 = in v2 = 1 if v1 b1 b2 b1: v2 = 2 if v1 b2 b2 b2: ret v2");
        due("an if with one goal twice", 2, u::plain);
        lists("at the end of the pred", u, "b0:", "v0 = in", "v1 = 1", "if v0 b1 b3", "b1:", "v2 = 2", "v3 = v2",
                "if v0 b2 b2", "b2:", "ret v3", "b3:", "v3 = v1", "jump b2");
    }

    private static void promise8Limits() {
        SsaForge x = inSsa(Texts.wide(100));
        x.list();
        refusedWithoutChange("more than 2000 rows", ArithmeticException.class, x, x::plain);
        due("still ssa", 1, () -> x.count(0));
        due("no new blocks", 60, () -> x.count(1));
        SsaForge z = inSsa(Texts.knots(25, 38, ""));
        z.plain();
        int room = 2000 - z.count(2);
        SsaForge u = inSsa(Texts.knots(25, 38, repeat(room, "show 1 ")));
        u.plain();
        due("2000 rows", 2000, () -> u.count(2));
        SsaForge w = inSsa(Texts.knots(25, 38, repeat(room + 1, "show 1 ")));
        refusedWithoutChange("2001 rows", ArithmeticException.class, w, w::plain);
        refusedWithoutChange("2000 rows set too many registers", ArithmeticException.class, u, u::ssa);
        SsaForge v = inSsa(Texts.star(60, 0));
        v.plain();
        int behind = 2000 - v.count(2);
        SsaForge t = inSsa(Texts.star(60, behind));
        due("2000 rows, the last of them at the end", 1800, t::plain);
        due("all of them", 2000, () -> t.count(2));
        SsaForge s = inSsa(Texts.star(60, behind + 1));
        refusedWithoutChange("one row more at the end", ArithmeticException.class, s, s::plain);
        SsaForge y = inSsa(Texts.wide(4));
        due("four phis of b1, and one of b3", 5, () -> y.count(3));
        int rows = y.count(2);
        int came = y.plain();
        due("rows that came", came, () -> y.count(2) - rows);
        due("back and forth", 5, y::ssa);
    }

    // ---- promises 9 to 11

    private static void promise9Run() {
        SsaForge x = new SsaForge();
        refused("fuel before state", IllegalArgumentException.class, () -> x.run(0));
        refused("no program", IllegalStateException.class, () -> x.run(1));
        Call.read(x, Texts.COUNTDOWN);
        refusedWithoutChange("0", IllegalArgumentException.class, x, () -> x.run(0));
        refusedWithoutChange("-1", IllegalArgumentException.class, x, () -> x.run(-1));
        refusedWithoutChange("100001", IllegalArgumentException.class, x, () -> x.run(100001));
        due("it ends", 0, () -> x.run(100000));
        due("answer", 6, () -> x.told(0));
        // b0: 2, b1 four times: 4, b2 three times: 9, b3: 1
        due("steps", 16, () -> x.told(2));
        due("just enough", 0, () -> x.run(16));
        due("one less", 4, () -> x.run(15));
        due("all used", 15, () -> x.told(2));
        due("no answer", 0, () -> x.told(0));
        x.ssa();
        // b0: 3, b1 four times with its phis: 8, b2 three times: 9, b3: 1
        due("ssa", 0, () -> x.run(21));
        due("steps of ssa", 21, () -> x.told(2));
        due("one less", 4, () -> x.run(20));
        due("no step for the phis", 4, () -> x.run(3));
        due("the phis' step", 4, () -> x.run(4));
        due("used", 4, () -> x.told(2));
        x.pass(7);
        due("coloured", 0, () -> x.run(21));
        due("answer", 6, () -> x.told(0));
        SsaForge y = with("b0: jump b1 b1: jump b1");
        due("for ever", 4, () -> y.run(100000));
        due("all fuel", 100000, () -> y.told(2));
        SsaForge z = with("b0: v1 = in v2 = 7 show v2 v3 = v2 / v1 show v3 ret 5");
        due("by 0", 1, () -> z.run(50));
        due("its row was a step", 4, () -> z.told(2));
        due("no answer", 0, () -> z.told(0));
        due("shown before", 1, () -> z.told(1));
        due("not done", 4, () -> z.run(3));
        SsaForge u = with("b0: v1 = 7 % 0 ret 5");
        due("rest by 0", 1, () -> u.run(50));
        SsaForge w = with("b0: jump b1 b1: show v1 v1 = v1 + 1 jump b1");
        due("too much is shown", 5, () -> w.run(100000));
        due("512", 512, () -> w.told(1));
        due("the last one", 511, () -> w.shown(511));
        due("steps", 1 + 3 * 512 + 1, () -> w.told(2));
        due("no fuel for it", 4, () -> w.run(1 + 3 * 512));
        SsaForge t = with("b0: v1 = in if v1 b1 b2 b1: ret 1 b2: ret 2");
        t.run(9);
        due("0 goes to the second", 2, () -> t.told(0));
        Call.giveInput(t, -5);
        t.run(9);
        due("all others to the first", 1, () -> t.told(0));
        promise9Phis();
    }

    private static void promise9Phis() {
        SsaForge x = inSsa("b0: v1 = in v2 = in jump b1 b1: v3 = v1 v1 = v2 v2 = v3 show v1 show v2 v4 = v4 + 1 v5 = v4 < 3 "
                + "if v5 b1 b2 b2: ret v1");
        x.pass(2);
        Call.giveInput(x, 10, 20);
        due("phis together", 0, () -> x.run(1000));
        int[] due = {20, 10, 10, 20, 20, 10};
        for (int i = 0; i < due.length; i++) {
            int n = i;
            due("swapped", due[i], () -> x.shown(n));
        }
        due("answer", 20, () -> x.told(0));
    }

    private static void operator(String a, String op, String b, int due) {
        SsaForge x = with("b0: v1 = " + a + " " + op + " " + b + " ret v1");
        due("run", 0, () -> x.run(5));
        due(a + op + b, due, () -> x.told(0));
        SsaForge y = inSsa("b0: v1 = " + a + " v2 = " + b + " v3 = v1 " + op + " v2 ret v3");
        due("all are numbers", 3, () -> y.pass(1));
        lists("folded " + a + op + b, y, "b0:", "ret " + due);
    }

    private static void promise9Operators() {
        int least = Integer.MIN_VALUE;
        operator("2147483647", "+", "1", least);
        operator("-2147483648", "-", "1", 2147483647);
        operator("65536", "*", "65537", 65536);
        operator("-7", "/", "2", -3);
        operator("-7", "%", "2", -1);
        operator("7", "/", "-2", -3);
        operator("7", "%", "-2", 1);
        operator("-2147483648", "/", "-1", least);
        operator("-2147483648", "%", "-1", 0);
        operator("12", "&", "10", 8);
        operator("12", "|", "10", 14);
        operator("12", "^", "10", 6);
        operator("1", "<<", "31", least);
        operator("3", "<<", "33", 6);
        operator("-8", ">>", "1", -4);
        operator("-8", ">>", "-1", -1);
        operator("-1", "<", "0", 1);
        operator("0", "<", "0", 0);
        operator("0", "<=", "0", 1);
        operator("1", "<=", "0", 0);
        operator("5", "==", "5", 1);
        operator("5", "==", "6", 0);
        operator("5", "!=", "6", 1);
        operator("5", "!=", "5", 0);
    }

    private static void promise10Told() {
        SsaForge x = with("b0: v1 = in v2 = in v3 = in show v1 ret v2");
        refused("-1", IllegalArgumentException.class, () -> x.told(-1));
        refused("5", IllegalArgumentException.class, () -> x.told(5));
        due("none", -1, () -> x.told(4));
        Call.giveInput(x, 4, -6);
        x.run(100);
        due("answer", -6, () -> x.told(0));
        due("shown", 1, () -> x.told(1));
        due("steps", 5, () -> x.told(2));
        due("read", 2, () -> x.told(3));
        due("ended", 0, () -> x.told(4));
        refused("no run", IllegalArgumentException.class, () -> x.run(0));
        Call.read(x, "wrong");
        due("the latest stays", -6, () -> x.told(0));
        due("the latest end stays", 0, () -> x.told(4));
        refused("no program", IllegalStateException.class, () -> x.run(5));
        due("and stays", 5, () -> x.told(2));
        Call.read(x, "b0: v1 = in jump b1 b1: jump b1");
        x.run(7);
        due("no answer", 0, () -> x.told(0));
        due("nothing shown", 0, () -> x.told(1));
        due("steps", 7, () -> x.told(2));
        due("read", 1, () -> x.told(3));
        due("ended", 4, () -> x.told(4));
    }

    private static void promise11Shown() {
        SsaForge x = with("b0: show 5 show -6 ret 0");
        refused("no run", IndexOutOfBoundsException.class, () -> x.shown(0));
        x.run(10);
        due("0", 5, () -> x.shown(0));
        due("1", -6, () -> x.shown(1));
        refused("2", IndexOutOfBoundsException.class, () -> x.shown(2));
        refused("-1", IndexOutOfBoundsException.class, () -> x.shown(-1));
        x.run(1);
        due("the latest run", 5, () -> x.shown(0));
        refused("showed one", IndexOutOfBoundsException.class, () -> x.shown(1));
    }

    // ---- promises 12 to 15

    private static void promise12Count() {
        SsaForge x = new SsaForge();
        refused("-1", IllegalArgumentException.class, () -> x.count(-1));
        refused("8", IllegalArgumentException.class, () -> x.count(8));
        Call.read(x, Texts.COUNTDOWN);
        counts("plain", x, 0, 4, 3, 0, 2, 0, 0, 0);
        x.ssa();
        counts("ssa", x, 1, 4, 4, 2, 2, 0, 0, 0);
        int length = x.list();
        x.feed(0, 0, 0, 0, 0);
        counts("with result and tape", x, 1, 4, 4, 2, 2, 0, length, 20);
        x.pass(7);
        counts("coloured", x, 2, 4, 4, 2, 2, 0, length, 20);
        x.end(0);
        Call.read(x, "b0: jump b0");
        counts("none", x, -1, 0, 0, 0, 0, 3, length, 0);
        counts("set and not used", with("b0: v1 = 1 v2 = 2 ret 0"), 0, 1, 2, 0, 1);
        counts("in front of a row", with("b0: v1 = v2 + v3 ret v4"), 0, 1, 1, 0, 3);
        counts("behind a row", with("b0: v1 = in v2 = in v3 = in v4 = v1 + v2 show v3 ret v4"), 0, 1, 5, 0, 3);
        counts("dead behind a row", with("b0: v1 = in v2 = 5 ret v1"), 0, 1, 2, 0, 2);
        counts("blocks that are not reached", with("b0: ret 0 b1: v1 = v2 + v3 ret v4"), 0, 2, 1, 0, 3);
        counts("at an end", with("b0: if v1 b1 b2 b1: ret v2 b2: ret v3"), 0, 3, 0, 0, 3);
        // the phi of v1 is dead in b1's rows once pass 1 and 2 are done with them: it counts behind all phis
        SsaForge y = inSsa("b0: v1 = in v2 = in jump b1 b1: v1 = v1 + 1 v2 = v2 - 1 if v2 b1 b2 b2: ret v2");
        counts("phis", y, 1, 3, 4, 2, 2);
    }

    private static void promise13Block() {
        SsaForge x = new SsaForge();
        refused("what first", IllegalArgumentException.class, () -> x.block(0, 5));
        refused("-1", IllegalArgumentException.class, () -> x.block(0, -1));
        refused("no program", java.util.NoSuchElementException.class, () -> x.block(0, 0));
        Call.read(x, "b0: v1 = in if v1 b1 b2 b1: v2 = 3 jump b3 b2: jump b3 b3: if v2 b4 b6 b4: if v1 b4 b5 b5: jump b3 b6: ret v1 "
                + "b7: show v9 jump b6");
        refused("b8", java.util.NoSuchElementException.class, () -> x.block(8, 0));
        refused("b-1", java.util.NoSuchElementException.class, () -> x.block(-1, 0));
        refused("both", IllegalArgumentException.class, () -> x.block(-1, 5));
        blocks("idom", x, 0, -1, 0, 0, 0, 3, 4, 3, -2);
        blocks("preds", x, 1, 0, 1, 1, 3, 2, 1, 2, 0);
        blocks("frontier", x, 2, 0, 1, 1, 1, 2, 1, 0, 0);
        blocks("live", x, 3, 1, 1, 2, 2, 2, 2, 1, 2);
        blocks("loop", x, 4, -1, -1, -1, 3, 4, 3, -1, -1);
        SsaForge y = inSsa(Texts.COUNTDOWN);
        blocks("behind the phis", y, 3, 0, 2, 2, 1);
        SsaForge z = with("b0: jump b1 b1: if v1 b2 b3 b2: jump b1 b3: jump b4 b4: if v1 b3 b5 b5: if v1 b1 b6 b6: ret 0");
        blocks("loops of one head are one", z, 4, -1, 1, 1, 3, 3, 1, -1);
        SsaForge u = with("b0: if v0 b1 b2 b1: jump b2 b2: jump b1");
        blocks("no head dominates", u, 4, -1, -1, -1);
        blocks("both under b0", u, 0, -1, 0, 0);
        blocks("each in the other's frontier", u, 2, 0, 1, 1);
        SsaForge w = with("b0: if v1 b1 b1 b1: ret 0");
        blocks("one way", w, 1, 0, 1);
        due("b0 idom", 0, () -> w.block(1, 0));
        SsaForge t = with("b0: jump b1 b1: jump b2 b2: if v0 b1 b3 b3: if v0 b2 b4 b4: ret 0");
        // the loop of b1 is b1 b2 b3, that of b2 is b2 b3
        blocks("the fewest blocks", t, 4, -1, 1, 2, 2, -1);
    }

    private static void promise14List() {
        SsaForge x = with("b0: ret 1");
        due("length", 10, x::list);
        due("result", 10, () -> x.count(6));
        Call.read(x, "b0: jump b1");
        refused("no program", IllegalStateException.class, x::list);
        due("the latest stays", 10, () -> x.count(6));
        due("its bytes, too", 0x62303a0a72657420L, () -> x.word(0));
        Call.read(x, "b0: v1 = v2 - -5 ret -2147483648");
        lists("numbers", x, "b0:", "v1 = v2 - -5", "ret -2147483648");
        SsaForge y = inSsa(Texts.wide(100));
        int fine = y.list();
        check("a long one", Boolean.toString(fine > 50000 && fine <= 65536), "true");
        check("all its bytes", Integer.toString(Call.listing(y).length()), Integer.toString(fine));
        SsaForge z = with("b0: ret 7");
        z.list();
        Call.read(z, Texts.wide(130));
        z.ssa();
        refusedWithoutChange("too long", IllegalStateException.class, z, z::list);
        due("the latest stays", 0x370a000000000000L, () -> z.word(8));
        promise14Edge();
    }

    private static void promise14Edge() {
        SsaForge y = inSsa(Texts.listedAs(65536));
        due("65536 bytes", 65536, y::list);
        due("its last byte", 0x0a00000000000000L, () -> y.word(65535));
        refused("none of its bytes", IndexOutOfBoundsException.class, () -> y.word(65536));
        SsaForge z = inSsa(Texts.listedAs(65537));
        refusedWithoutChange("65537 bytes", IllegalStateException.class, z, z::list);
    }

    private static void promise15Word() {
        SsaForge x = with("b0: ret 1");
        refused("empty", IndexOutOfBoundsException.class, () -> x.word(0));
        x.list();
        due("0", 0x62303a0a72657420L, () -> x.word(0));
        due("1", 0x303a0a7265742031L, () -> x.word(1));
        due("3", 0x0a72657420310a00L, () -> x.word(3));
        due("the last byte", 0x0a00000000000000L, () -> x.word(9));
        refused("10", IndexOutOfBoundsException.class, () -> x.word(10));
        refused("-1", IndexOutOfBoundsException.class, () -> x.word(-1));
        refused("the least int", IndexOutOfBoundsException.class, () -> x.word(Integer.MIN_VALUE));
        refused("the greatest int", IndexOutOfBoundsException.class, () -> x.word(Integer.MAX_VALUE));
        x.ssa();
        x.pass(7);
        due("until the next list", 0x62303a0a72657420L, () -> x.word(0));
    }
}
