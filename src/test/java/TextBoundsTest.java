/** The boundary cases of TEXTS: each sentence of the document that names one, on both of its sides. */
public final class TextBoundsTest extends Checks {
    private TextBoundsTest() {
    }

    public static void main(String[] args) {
        tapeHasAtMost8192Bytes();
        signsAsLongAsCanBe();
        behindTheLastDigitIsAnotherSign();
        blanks();
        remarks();
        bytesAndWordsThatAreNoSign();
        registersAbove199();
        blocksAbove59();
        numbersThatAreNoneOfTheInts();
        minusBelongsToTheNumber();
        unlessARegisterOrNumberStandsBefore();
        endsTooEarly();
        atLeastOneBlock();
        rowsAndEnds();
        ruleTwo();
        ruleThree();
        ruleFour();
        theFirstSignThatBreaksARule();
        signsBeforeRules();
        rightTextIsTheProgram();
        wrongTextThereIsNone();
        eachTextAnew();
        finish();
    }

    private static final String SHORTEST = "b0:ret 1";

    /** "THE TAPE has at most 8192 bytes." */
    private static void tapeHasAtMost8192Bytes() {
        String blanks = repeat(8192 - SHORTEST.length(), " ");
        lists("blanks in front fill the tape", with(blanks + SHORTEST), "b0:", "ret 1");
        lists("blanks behind fill the tape", with(SHORTEST + blanks), "b0:", "ret 1");
        lists("a remark fills the tape", with(SHORTEST + ";" + repeat(8191 - SHORTEST.length(), "x")), "b0:", "ret 1");
        lists("digits fill the tape", with("b0:ret " + repeat(8192 - 8, "0") + "7"), "b0:", "ret 7");
        wrongText(SHORTEST + repeat(8191 - SHORTEST.length(), " ") + "?", 8191, 1);
        wrongText("b0:ret" + repeat(8192 - 6, " "), 8192, 1);
        wrongText(repeat(8192, " "), 8192, 1);
        wrongText(repeat(8192, "x"), 0, 1);
        wrongText("b0:ret " + repeat(8192 - 7, "9"), 7, 1);
        wrongText(repeat(8192 / 8, "b0:ret 1"), 8, 2);
    }

    /** "each as long as can be" */
    private static void signsAsLongAsCanBe() {
        lists("two signs that could be one", with("b0: v1=v2<<v3 v1=v2<=v3 v1=v2==v3 ret 0"), "b0:", "v1 = v2 << v3",
                "v1 = v2 <= v3", "v1 = v2 == v3", "ret 0");
        wrongText("b0: v1=v2<<<v3 ret 0", 11, 1);
        wrongText("b0: v1=v2<<=v3 ret 0", 11, 1);
        wrongText("b0: v1=v2<==v3 ret 0", 11, 1);
        wrongText("b0: v1=v2===v3 ret 0", 11, 1);
        wrongText("b0: v1=v2!==v3 ret 0", 11, 1);
        wrongText("b0: v1=v2>>>v3 ret 0", 11, 1);
        wrongText("b0: v1=v2< <v3 ret 0", 11, 1);
        wrongText("b0: v1=v2< =v3 ret 0", 11, 1);
        wrongText("b0: v1=v2= =v3 ret 0", 9, 1);
        wrongText("b0: v1=v2> >v3 ret 0", 9, 1);
        wrongText("b0: v1==v2 ret 0", 6, 1);
        wrongText("b0: v1=v2 retv3", 10, 1);
        wrongText("b0: showv1 ret 0", 4, 1);
        wrongText("b0: v1=inshow v1 ret 0", 7, 1);
        lists("numbers as long as can be", with("b0: v1=1234 ret 0"), "b0:", "v1 = 1234", "ret 0");
        wrongText("b0: v1=12 34 ret 0", 10, 1);
    }

    /** "(what stands behind the last digit is another sign)" */
    private static void behindTheLastDigitIsAnotherSign() {
        lists("words behind digits", with("b0:v1=2show v1v2=v1ret v2b1:jump b1b2:if v1b1b2"), "b0:", "v1 = 2", "show v1",
                "v2 = v1", "ret v2", "b1:", "jump b1", "b2:", "if v1 b1 b2");
        lists("numbers behind words", with("b0:show1v1=in show2if3b1b1b1:ret4"), "b0:", "show 1", "v1 = in", "show 2",
                "if 3 b1 b1", "b1:", "ret 4");
        wrongText("b0: v1x = 2 ret 0", 6, 1);
        wrongText("b0: ret v1_", 10, 1);
        wrongText("b0x: ret 1", 2, 1);
        wrongText("b0: ret 1x", 9, 1);
        wrongText("b0: ret 0x1", 9, 1);
    }

    /** "blanks (9, 10, 13, 32)" */
    private static void blanks() {
        for (int c = 0; c < 256; c++) {
            String text = "b0:" + (char) c + "ret 1";
            if (c == 9 || c == 10 || c == 13 || c == 32) {
                rightText(text);
            } else if (c == ';') {
                wrongText(text, 9, 1);
            } else {
                wrongText(text, 3, 1);
            }
        }
        rightText("\t\n\r b0\t\n\r :\t\n\r ret\t\n\r 1\t\n\r ");
        wrongText("b0: v1 =\u000b2 ret 1", 8, 1);
        wrongText("b0: v1 =\u000c2 ret 1", 8, 1);
        wrongText("b0: v1 =\u00a02 ret 1", 8, 1);
        wrongText("b0: v1 =\u00002 ret 1", 8, 1);
    }

    /** "remarks (; up to a byte 10 or the end)" */
    private static void remarks() {
        lists("up to a byte 10", with(";b0\nb0:;:\nret;1\n2"), "b0:", "ret 2");
        lists("up to the end", with("b0: ret 2;3"), "b0:", "ret 2");
        lists("an empty one at the end", with("b0: ret 2;"), "b0:", "ret 2");
        lists("an empty one", with("b0:;\nret 2"), "b0:", "ret 2");
        lists("a byte 13 does not end it", with("b0: ret 2;x\ry"), "b0:", "ret 2");
        lists("nor a second ;", with("b0: ret 2;;x;y\n;\n"), "b0:", "ret 2");
        lists("any bytes are in it", with("b0: ret 2;\u0000\u007f\u0080\u00ff\t?!\n"), "b0:", "ret 2");
        wrongText("b0: ;ret 2", 10, 1);
        wrongText("b0: ;\rret 2", 11, 1);
        wrongText("b0: ;x\n?ret 2", 7, 1);
        wrongText(";", 1, 1);
        wrongText(";\n", 2, 1);
        wrongText("b0: ret 2;\n3", 11, 1);
        wrongText("b0: re;\nt 2", 4, 1);
        wrongText("b0: v;\n1 = 2 ret 2", 4, 1);
        wrongText("b0: v1 = 3 <;\n< 2 ret 2", 14, 1);
        lists("a remark behind a sign", with("b0: v1 = 3 <;\n2 show 4;\nret 2"), "b0:", "v1 = 3 < 2", "show 4", "ret 2");
        wrongText("b0: ret 1;\n2", 11, 1);
    }

    /** "a byte or word that is no sign" */
    private static void bytesAndWordsThatAreNoSign() {
        for (String word : new String[] {"a", "z", "v", "b", "i", "inn", "sho", "shows", "f", "iff", "jum", "jumps", "re",
            "rets", "ph", "phis", "vv", "bb", "vin", "inv", "reta", "aret", "retz", "zret", "showa", "jumpz",
            "abcdefghijklmnopqrstuvwxyz"}) {
            wrongText("b0: " + word + " 1 ret 1", 4, 1);
        }
        for (String word : new String[] {"in", "phi"}) {
            wrongText("b0: " + word + " 1 ret 1", 4, 1);
        }
        for (int c = 0; c < 256; c++) {
            boolean blank = c == 9 || c == 10 || c == 13 || c == 32;
            if (!blank && c != ';' && !(c >= '0' && c <= '9')) {
                wrongText("b0: ret 1" + (char) c, 9, 1);
                wrongText("b0: v1 = 5 ret 2 " + (char) c + " b1: ret 1", 17, 1);
            }
        }
        for (String sign : "( ) , : = + - * / % & | ^ << >> < <= == != in phi".split(" ")) {
            wrongText("b0: " + sign + " ret 1", 4, 1);
            wrongText("b0: show " + sign + " ret 1", 9, 1);
            wrongText("b0: jump " + sign, 9, 1);
        }
        wrongText("B0: ret 1", 0, 1);
        wrongText("b0: V1 = 2 ret 1", 4, 1);
        wrongText("b0: Ret 1", 4, 1);
    }

    /** "digits above 199 of a register": at its first byte */
    private static void registersAbove199() {
        lists("199", with("b0: v199 = v0 + v199 show v199 if v199 b1 b1 b1: ret v199"), "b0:", "v199 = v0 + v199", "show v199",
                "if v199 b1 b1", "b1:", "ret v199");
        lists("zeros in front", with("b0: v000000000000000000000199 = 1 ret v00"), "b0:", "v199 = 1", "ret v0");
        for (String above : new String[] {"v200", "v1990", "v0200", "v999", "v2147483647", "v2147483648", "v4294967295",
            "v4294967296", "v4294967396", "v9223372036854775808", "v18446744073709551616", "v" + repeat(50, "9")}) {
            wrongText("b0: " + above + " = 1 ret 1", 4, 1);
            wrongText("b0: v1 = " + above + " ret 1", 9, 1);
            wrongText("b0: v1 = 2 - " + above + " ret 1", 13, 1);
            wrongText("b0: show " + above + " ret 1", 9, 1);
            wrongText("b0: if " + above + " b1 b1 b1: ret 1", 7, 1);
            wrongText("b0: ret " + above, 8, 1);
        }
    }

    /** "above 59 of a block": at its first byte */
    private static void blocksAbove59() {
        String sixty = each(60, i -> "b" + i + ":jump b59\n");
        SsaForge x = with(sixty);
        due("60 blocks", 60, () -> x.count(1));
        due("all lead to b59", 60, () -> x.block(59, 1));
        wrongText(sixty + "b60:jump b59", sixty.length(), 1);
        rightText(sixty.replace("b59:", "b0000059:"));
        wrongText(sixty.replace("b3:jump b59", "b3:jump b60"), sixty.indexOf("b3:") + 8, 1);
        for (String above : new String[] {"b60", "b100", "b590", "b4294967296", "b4294967297", "b18446744073709551617"}) {
            wrongText("b0: jump " + above + " b1: ret 1", 9, 1);
            wrongText("b0: if 1 " + above + " b1 b1: ret 1", 9, 1);
            wrongText("b0: if 1 b1 " + above + " b1: ret 1", 12, 1);
            wrongText("b0: ret 1 " + above + ": ret 1", 10, 1);
        }
        wrongText("b0: jump b59 b1: ret 1", 9, 3);
        wrongText("b59: ret 1", 0, 2);
    }

    /** "a number that is none of the ints: at its first byte" */
    private static void numbersThatAreNoneOfTheInts() {
        lists("the greatest and the least", with("b0: show 2147483647 show -2147483648 ret 0"), "b0:", "show 2147483647",
                "show -2147483648", "ret 0");
        lists("zeros in front", with("b0: show 00000000000000000002147483647 show -00000000000000000002147483648 ret -0"),
                "b0:", "show 2147483647", "show -2147483648", "ret 0");
        for (String none : new String[] {"2147483648", "-2147483649", "4294967295", "4294967296", "-4294967296",
            "-4294967297", "9223372036854775807", "9223372036854775808", "-9223372036854775808", "18446744073709551615",
            "18446744073709551616", "-18446744073709551616", "18446744073709551617", repeat(60, "9"), "-" + repeat(60, "9"),
            "00002147483648"}) {
            wrongText("b0: v1 = " + none + " ret 1", 9, 1);
            wrongText("b0: v1 = 1 + " + none + " ret 1", 13, 1);
            wrongText("b0: show " + none + " ret 1", 9, 1);
            wrongText("b0: if " + none + " b1 b1 b1: ret 1", 7, 1);
            wrongText("b0: ret " + none, 8, 1);
        }
    }

    /** "(A - with a digit behind it belongs to the number, ..)" */
    private static void minusBelongsToTheNumber() {
        lists("behind = and words", with("b0: v1=-1 v2=-2+v1 show-3 if-4 b1 b1 b1: ret-5"), "b0:", "v1 = -1", "v2 = -2 + v1",
                "show -3", "if -4 b1 b1", "b1:", "ret -5");
        StringBuilder text = new StringBuilder("b0:\n");
        for (String op : "+ - * / % & | ^ << >> < <= == !=".split(" ")) {
            text.append("v1 = v2 ").append(op).append(" -3\n");
        }
        text.append("ret 0\n");
        check("behind operators", Call.listing(with(text.toString())), text.toString());
        check("without blanks", Call.listing(with(text.toString().replaceAll("(v1) = (v2) (\\S+) -3", "$1=$2$3-3"))),
                text.toString());
        wrongText("b0: v1 = - 3 ret 1", 9, 1);
        wrongText("b0: v1 = -;\n3 ret 1", 9, 1);
        wrongText("b0: v1 = -v2 ret 1", 9, 1);
        wrongText("b0: v1 = --3 ret 1", 9, 1);
        wrongText("b0: ret -", 8, 1);
        wrongText("b0: v1 = 2 ---3 ret 1", 12, 1);
        wrongText("b0: jump -1", 9, 1);
    }

    /** "(.. unless a register or number stands right before it, blanks and remarks aside.)" */
    private static void unlessARegisterOrNumberStandsBefore() {
        lists("right before it", with("b0: v1=v2-3 v1=4-3 v1=-4-3 v1=v2--3 v1=4--3 ret 0"), "b0:", "v1 = v2 - 3", "v1 = 4 - 3",
                "v1 = -4 - 3", "v1 = v2 - -3", "v1 = 4 - -3", "ret 0");
        lists("blanks aside", with("b0: v1 = v2 \t\r\n -3 v1 = 4 -3 v1 = 4 - -3 ret 0"), "b0:", "v1 = v2 - 3", "v1 = 4 - 3",
                "v1 = 4 - -3", "ret 0");
        lists("remarks aside", with("b0: v1 = v2;=\n-3 v1 = 4 ; + \n ; * \n -3 ret 0"), "b0:", "v1 = v2 - 3", "v1 = 4 - 3",
                "ret 0");
        wrongText("b0: v1 = v2 -2147483648 ret 1", 13, 1);
        wrongText("b0: v1 = 2 -2147483648 ret 1", 12, 1);
        rightText("b0: v1 = 2 - -2147483648 ret 1");
        wrongText("b0: v1 = 2 + 3 -4 ret 1", 15, 1);
        wrongText("b0: show v1 -4 ret 1", 12, 1);
        wrongText("b0: v1 -4 ret 1", 7, 1);
        wrongText("b0: ret 5 -4", 10, 1);
    }

    /** "its length, if it ends too early": behind each sign, and with blanks or a remark behind that. */
    private static void endsTooEarly() {
        String[] signs = ("b0 : v1 = 2 v2 = v1 + -3 v3 = in show v1 ret! 7 b1 : v3 = in if v1 b1! b1 b2 : show 1 jump! b1")
                .split(" ");
        StringBuilder text = new StringBuilder();
        boolean whole = false;
        for (String sign : signs) {
            text.append(sign.replace("!", "")).append(" ");
            String cut = text.toString();
            if (whole) {
                rightText(cut);
                rightText(cut.trim());
            } else {
                wrongText(cut, cut.length(), 1);
                wrongText(cut.trim(), cut.length() - 1, 1);
                wrongText(cut + ";and then?", cut.length() + 10, 1);
                wrongText(cut + "; \n\n\n", cut.length() + 5, 1);
            }
            whole = sign.endsWith("!");
        }
        wrongText("", 0, 1);
    }

    /** "A PROGRAM is {BLOCK}, at least one" */
    private static void atLeastOneBlock() {
        wrongText("", 0, 1);
        wrongText("   ", 3, 1);
        wrongText("; b0: ret 1", 11, 1);
        rightText("b0:ret 1");
        SsaForge x = with("b0:ret 1");
        counts("the least program", x, 0, 1, 0, 0, 0, 0, 0, 0);
        SsaForge y = with("b0:ret 1 b1:ret 2");
        counts("one block more", y, 0, 2, 0, 0, 0, 0, 0, 0);
    }

    /** ROW and END: what can't stand where another sign is due. */
    private static void rowsAndEnds() {
        wrongText("b0 b0: ret 1", 3, 1);
        wrongText("b0:: ret 1", 3, 1);
        wrongText("b0: b1: ret 1", 4, 1);
        wrongText("b0: 5 ret 1", 4, 1);
        wrongText("b0: v1 ret 1", 7, 1);
        wrongText("b0: v1 = show 1 ret 1", 9, 1);
        wrongText("b0: v1 = b0 ret 1", 9, 1);
        wrongText("b0: v1 = v2 v3 ret 1", 15, 1);
        wrongText("b0: v1 = in in ret 1", 12, 1);
        wrongText("b0: v1 = in + 1 ret 1", 12, 1);
        wrongText("b0: v1 = 1 + ret 1", 13, 1);
        wrongText("b0: v1 = 1 + b0 ret 1", 13, 1);
        wrongText("b0: v1 = 1 + 2 + 3 ret 1", 15, 1);
        wrongText("b0: show b0 ret 1", 9, 1);
        wrongText("b0: show 1 2 ret 1", 11, 1);
        wrongText("b0: show 1 + 2 ret 1", 11, 1);
        wrongText("b0: if b1 b1 b1: ret 1", 7, 1);
        wrongText("b0: if in b1 b1 b1: ret 1", 7, 1);
        wrongText("b0: if 1 b1 2 b1: ret 1", 12, 1);
        wrongText("b0: if 1 b1 b1: ret 1", 14, 1);
        wrongText("b0: jump b1 b1 b1: ret 1", 15, 1);
        wrongText("b0: jump v1 b1: ret 1", 9, 1);
        wrongText("b0: ret v1 v2", 11, 1);
        wrongText("b0: ret 1 v1 = 2", 10, 1);
        wrongText("b0: ret 1 show 2", 10, 1);
        wrongText("b0: v1 = phi(b0 1) ret 1", 9, 1);
    }

    /** "2: a block's b, if it is not the next one from b0 on" */
    private static void ruleTwo() {
        rightText("b0: ret 0 b1: ret 1 b2: ret 2");
        rightText("b00: ret 0 b01: ret 1");
        wrongText("b1: ret 0", 0, 2);
        wrongText("  b2: ret 0", 2, 2);
        wrongText("b0: ret 0 b0: ret 1", 10, 2);
        wrongText("b0: ret 0 b2: ret 1", 10, 2);
        wrongText("b0: ret 0 b1: ret 1 b1: ret 2", 20, 2);
        wrongText("b0: ret 0 b1: ret 1 b3: ret 2", 20, 2);
        wrongText("b0: ret 0 b2: ret 1 b1: ret 2", 10, 2);
        wrongText("b1: ret 0 b0: ret 1", 0, 2);
        wrongText("b1: ret 0 b1: ret 1", 0, 2);
        String many = each(59, i -> "b" + i + ":ret 0\n");
        rightText(many + "b59:ret 0");
        wrongText(many + "b58:ret 0", many.length(), 2);
    }

    /** "3: a goal that is no block's, or b0" */
    private static void ruleThree() {
        rightText("b0: jump b1 b1: ret 1");
        rightText("b0: ret 0 b1: jump b1");
        rightText("b0: if 1 b2 b1 b1: ret 1 b2: jump b1");
        wrongText("b0: jump b2 b1: ret 1", 9, 3);
        wrongText("b0: if 1 b1 b2 b1: ret 1", 12, 3);
        wrongText("b0: if 1 b2 b1 b1: ret 1", 9, 3);
        wrongText("b0: if 1 b2 b2 b1: ret 1", 9, 3);
        wrongText("b0: jump b0", 9, 3);
        wrongText("b0: jump b00", 9, 3);
        wrongText("b0: ret 1 b1: jump b0", 19, 3);
        wrongText("b0: ret 1 b1: if 1 b0 b1", 19, 3);
        wrongText("b0: ret 1 b1: if 1 b1 b0", 22, 3);
        wrongText("b0: ret 1 b1: if 1 b0 b9", 19, 3);
        wrongText("b0: ret 1 b1: if 1 b9 b0", 19, 3);
        wrongText("b0: if 1 b1 b3 b1: jump b2 b2: if 1 b0 b1", 12, 3);
        // a label that is wrong is the fault itself, not the goals that mean its block by what it bears or should bear
        wrongText("b0: jump b2 b2: ret 1", 12, 2);
        wrongText("b0: jump b1 b2: ret 1", 12, 2);
        wrongText("b0: if 1 b1 b2 b2: ret 1", 15, 2);
        wrongText("b0: jump b2 b1: ret 1 b3: ret 2", 22, 2);
        wrongText("b0: jump b1 b0: ret 1", 12, 2);
        wrongText("b0: jump b3 b2: ret 1", 9, 3);
    }

    /** "4: the first sign of the 201st ROW" */
    private static void ruleFour() {
        SsaForge x = with("b0: " + repeat(200, "show 1 ") + "ret 1");
        due("200 rows", 200, () -> x.count(2));
        wrongText("b0: " + repeat(200, "show 1 ") + "show 2 ret 1", 4 + 1400, 4);
        wrongText("b0: " + repeat(200, "show 1 ") + "v1 = 2 ret 1", 4 + 1400, 4);
        wrongText("b0: " + repeat(200, "show 1 ") + "v1 = v1 + 1 ret 1", 4 + 1400, 4);
        wrongText("b0: " + repeat(200, "v1=1 ") + "\n;x\nv1 = in ret 1", 4 + 1000 + 4, 4);
        wrongText("b0: " + repeat(202, "show 1 ") + "ret 1", 4 + 1400, 4);
        SsaForge y = with(each(50, i -> "b" + i + ":v1=in v2=v1 v3=v1+v2 show v3 ret 1\n"));
        due("ends and blocks do not count", 200, () -> y.count(2));
        String many = each(50, i -> "b" + i + ":v1=in v2=v1 v3=v1+v2 show v3 ret 1\n");
        wrongText(many + "b50:show 1 ret 1", many.length() + 4, 4);
        SsaForge z = with("b0:" + repeat(200, "v0=0") + "ret 1");
        due("all kept", 200, () -> z.count(2));
    }

    /** "of the first sign that breaks a RULE (the least REASON)" */
    private static void theFirstSignThatBreaksARule() {
        String full = repeat(200, "v1=1 ");
        int end = 4 + full.length();
        wrongText("b0: jump b9 b2: ret 1", 9, 3);
        wrongText("b0: ret 1 b2: jump b9", 10, 2);
        wrongText("b1: jump b0", 0, 2);
        wrongText("b0: " + full + "v1=1 jump b9", end, 4);
        wrongText("b0: " + full + "v1=1 ret 1 b2: ret 1", end, 4);
        wrongText("b0: " + full + "jump b9 b1: v1=1 ret 1", end + 5, 3);
        wrongText("b0: " + full + "ret 1 b2: v1=1 ret 1", end + 6, 2);
        wrongText("b1: " + full + "v1=1 jump b0", 0, 2);
        wrongText("b0: jump b0 b1: jump b1 b3: ret 1", 9, 3);
        wrongText("b0: jump b1 b1: jump b2 b3: jump b0", 24, 2);
        wrongText("b0: jump b1 b1: jump b4 b3: jump b0", 21, 3);
    }

    /** "first sign that can't stand there .. if there is none, of the first sign that breaks a RULE" */
    private static void signsBeforeRules() {
        wrongText("b1: ret 1 ?", 10, 1);
        wrongText("b0: jump b0 b1: ret", 19, 1);
        wrongText("b0: jump b9 b2: ret v200", 20, 1);
        wrongText("b0: " + repeat(201, "v1=1 ") + "ret 2147483648", 4 + 1005 + 4, 1);
        wrongText("b0: " + repeat(201, "v1=1 ") + "ret", 4 + 1005 + 3, 1);
        wrongText("b7: jump b9 b7: jump b60", 21, 1);
    }

    private static final String[] FORMS = {"plain", "ssa", "coloured"};

    private static SsaForge inForm(String form) {
        SsaForge x = with(Texts.DIAMOND);
        if (!form.equals("plain")) {
            x.ssa();
        }
        if (form.equals("coloured")) {
            x.pass(7);
        }
        return x;
    }

    /** "A right text is the PROGRAM, PLAIN, in place of the one before" */
    private static void rightTextIsTheProgram() {
        for (String form : FORMS) {
            SsaForge x = inForm(form);
            due("a text over one that is " + form, -1, () -> Call.read(x, "b0: show 4 jump b1 b1: ret v3"));
            counts("over " + form, x, 0, 2, 1, 0, 1, 0, 0, 0);
            lists("in place of one that is " + form, x, "b0:", "show 4", "jump b1", "b1:", "ret v3");
            blocks("idom", x, 0, -1, 0);
            blocks("preds", x, 1, 0, 1);
            blocks("live", x, 3, 1, 1);
            refused("no block of the one before", java.util.NoSuchElementException.class, () -> x.block(2, 0));
            runs("the new one", x, 10, 0, 0, 1, 3, 0);
        }
    }

    /** "a WRONG one: there is none" */
    private static void wrongTextThereIsNone() {
        String[] texts = {"?", "b1: ret 1", "b0: jump b0", "b0:" + repeat(201, "show 1 ") + "ret 1"};
        for (String form : FORMS) {
            for (int reason = 1; reason <= 4; reason++) {
                int last = reason;
                SsaForge x = inForm(form);
                Call.giveInput(x, 8);
                int length = x.list();
                x.run(50);
                Call.read(x, texts[reason - 1]);
                counts("no program", x, -1, 0, 0, 0, 0, reason, length, 0);
                nothingCanBeHad(x);
                due("the latest run stays", 8, () -> x.told(0));
                due("what it showed stays", 1, () -> x.shown(0));
                due("the result stays", 0x62303a0a, () -> x.word(0) >> 32);
                due("the reason stays", last, () -> x.count(5));
                due("a right one", -1, () -> Call.read(x, "b0: v1 = in ret v1"));
                runs("input stays", x, 9, 0, 8);
            }
        }
    }

    /** What an earlier text held, or where it broke off, has no say. */
    private static void eachTextAnew() {
        String[] before = {"b0: v1 =", "b0: if v1 b1", "b0:", "b0", "b0: ret", "b0: v1 = 2 +", "b0: show", "b0: jump", "b0: ret 1 b1:",
            "b0: ret 1", "b0: jump b1 b1: jump b2 b2: ret 1", "b2: ret 1", "b0: jump b9", "b0:" + repeat(201, "show 1 ") + "ret 1"};
        for (String first : before) {
            SsaForge x = new SsaForge();
            Call.read(x, first);
            due("a right one behind " + first, -1, () -> Call.read(x, "b0: v1 = 2 ret v1"));
            lists("alone", x, "b0:", "v1 = 2", "ret v1");
            Call.read(x, first);
            due("a goal of the text before", 9, () -> Call.read(x, "b0: jump b2 b1: ret 1"));
            due("its reason", 3, () -> x.count(5));
            Call.read(x, first);
            due("too short behind " + first, 2, () -> Call.read(x, "b0"));
            Call.read(x, first);
            due("no number behind a number", 0, () -> Call.read(x, "-1"));
            Call.read(x, first);
            due("rows are counted anew", -1, () -> Call.read(x, "b0:" + repeat(200, "show 1 ") + "ret 1"));
        }
    }

    private static void nothingCanBeHad(SsaForge x) {
        refusedWithoutChange("ssa", IllegalStateException.class, x, x::ssa);
        refusedWithoutChange("plain", IllegalStateException.class, x, x::plain);
        refusedWithoutChange("run", IllegalStateException.class, x, () -> x.run(1));
        refusedWithoutChange("list", IllegalStateException.class, x, x::list);
        for (int k = 1; k <= 7; k++) {
            int pass = k;
            refusedWithoutChange("pass", IllegalStateException.class, x, () -> x.pass(pass));
        }
        for (int what = 0; what <= 4; what++) {
            int kind = what;
            refusedWithoutChange("block", java.util.NoSuchElementException.class, x, () -> x.block(0, kind));
        }
    }
}
