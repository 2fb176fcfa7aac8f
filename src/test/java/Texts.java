import java.util.regex.Pattern;

/** Texts that several tests use, and makers of large ones. */
final class Texts {
    static final String COUNTDOWN =
            "b0: v1 = 3 jump b1 b1: if v1 b2 b3 b2: v2 = v2 + v1 v1 = v1 - 1 jump b1 b3: ret v2";
    static final String DIAMOND =
            "b0: v5 = in if v5 b1 b2 b1: v7 = 1 jump b3 b2: v7 = 2 jump b3 b3: show v7 ret v5";

    private Texts() {
    }

    /** Every block is a join of each register: with n blocks of that kind and m registers, n * m phis. */
    static String knots(int blocks, int registers, String more) {
        StringBuilder text = new StringBuilder("b0:" + more + "if v0 b1 b2\n");
        for (int b = 1; b <= blocks; b++) {
            text.append("b").append(b).append(":");
            for (int r = b - 1; r < registers; r += blocks) {
                text.append("v").append(r).append("=in ");
            }
            text.append("if v0 b").append(b % blocks + 1).append(" b");
            text.append(b == blocks ? blocks + 1 : (b + 1) % blocks + 1).append("\n");
        }
        text.append("b").append(blocks + 1).append(":").append(Checks.each(registers, r -> "show v" + r + " ")).append("ret 0");
        return text.toString();
    }

    /** The same with a b1 that is not reached: all blocks behind b0 have the next number. */
    static String withIdleBlock(String text) {
        String shifted = Pattern.compile("b([1-9][0-9]*)").matcher(text)
                .replaceAll(found -> "b" + (Integer.parseInt(found.group(1)) + 1));
        return shifted.replaceFirst("b2:", "b1:jump b2\nb2:");
    }

    /** b1 has 30 preds that end with jump, and a phi for each register; rows of b59 stand behind all others. */
    static String star(int registers, int shows) {
        StringBuilder text = new StringBuilder("b0:jump b1\nb1:");
        text.append(Checks.each(registers, r -> "v" + (r + 1) + "=v" + (r + 1) + "+1 ")).append("if v0 b2 b3\n");
        for (int b = 2; b < 58; b += 2) {
            text.append("b").append(b).append(":jump b1\n");
            text.append("b").append(b + 1).append(":if v0 b").append(b + 2).append(" b").append(b + 3).append("\n");
        }
        return text.append("b58:jump b1\nb59:").append(Checks.repeat(shows, "show 1 ")).append("ret 0").toString();
    }

    /** Each block but the last two may go on by one or by two, and has another v1 for both ways. */
    static String rungs() {
        StringBuilder text = new StringBuilder("b0:v1=in if v1 b1 b2\n");
        for (int b = 1; b < 58; b++) {
            text.append("b").append(b).append(":v1=v1-1 if v1 b").append(b + 1).append(" b").append(b + 2).append("\n");
        }
        return text.append("b58:v1=v1-1 jump b59\nb59:ret v1").toString();
    }

    /** As a star, but b1 swaps pairs of registers: each way back to it has as many rings. The shows are b0's. */
    static String swaps(int pairs, int shows) {
        StringBuilder text = new StringBuilder("b0:").append(Checks.repeat(shows, "show 1 ")).append("jump b1\nb1:");
        for (int r = 1; r < 2 * pairs; r += 2) {
            text.append("v0=v").append(r).append(" v").append(r).append("=v").append(r + 1).append(" v").append(r + 1).append("=v0 ");
        }
        text.append("if v100 b2 b3\n");
        for (int b = 2; b < 58; b += 2) {
            text.append("b").append(b).append(":jump b1\n");
            text.append("b").append(b + 1).append(":if v100 b").append(b + 2).append(" b").append(b + 3).append("\n");
        }
        return text.append("b58:jump b1\nb59:ret 0").toString();
    }

    /** b1 has 59 preds; it uses registers that the others set, each another one, so that it has a phi for each. */
    static String wide(int registers) {
        return wide(registers, 59);
    }

    static String wide(int registers, int last) {
        StringBuilder text = new StringBuilder("b0:v0=in jump b1\nb1:");
        for (int r = 1; r < registers; r += 2) {
            text.append("v0=v").append(r).append("+v").append(r + 1).append(" ");
        }
        text.append("if v0 b2 b3\n");
        for (int b = 2; b <= last; b++) {
            text.append("b").append(b).append(":");
            for (int r = b - 1; r <= registers; r += last - 1) {
                text.append("v").append(r).append("=in ");
            }
            text.append("if v0 b1 b").append(b == last ? 1 : b + 1).append("\n");
        }
        return text.toString();
    }

    /** A text whose listing in ssa has so many bytes: 65536, or one more. */
    static String listedAs(int bytes) {
        String text = "";
        int missing = Integer.MAX_VALUE;
        for (int registers = 100; registers < 130; registers += 2) {
            for (int last = 45; last < 60; last++) {
                SsaForge x = Checks.inSsa(wide(registers, last));
                String got = Call.answer(x::list);
                int less = got.startsWith("throws") ? -1 : 65536 - Integer.parseInt(got);
                if (less >= 7 && less < missing) {
                    missing = less;
                    text = wide(registers, last);
                }
            }
        }
        return longer(text, missing + bytes - 65536);
    }

    /** Rows in b0 that make the listing longer by so many bytes: each takes 7 to 16. */
    private static String longer(String text, int bytes) {
        StringBuilder rows = new StringBuilder();
        int left = bytes;
        while (left > 0) {
            int length = left <= 16 ? left : Math.min(16, left - 7);
            rows.append("show ").append("1111111111", 0, length - 6).append(" ");
            left -= length;
        }
        return text.replaceFirst("b0:", "b0:" + rows);
    }
}
