/** Small helpers with which tests speak to an object. */
final class Call {
    private Call() {
    }

    interface Question {
        long ask();
    }

    /** The answer, or the name of what was thrown. */
    static String answer(Question question) {
        try {
            return Long.toString(question.ask());
        } catch (RuntimeException e) {
            return "throws." + e.getClass().getSimpleName();
        }
    }

    static void feedBytes(SsaForge x, byte[] bytes) {
        int kept = x.count(7);
        for (int i = 0; i < bytes.length; i += 20) {
            x.feed(word(bytes, i), word(bytes, i + 4), word(bytes, i + 8), word(bytes, i + 12), word(bytes, i + 16));
        }
        x.end(kept + bytes.length);
    }

    static void feedBytes(Model x, byte[] bytes) {
        int kept = x.count(7);
        for (int i = 0; i < bytes.length; i += 20) {
            x.feed(word(bytes, i), word(bytes, i + 4), word(bytes, i + 8), word(bytes, i + 12), word(bytes, i + 16));
        }
        x.end(kept + bytes.length);
    }

    private static int word(byte[] bytes, int from) {
        int word = 0;
        for (int i = from; i < from + 4; i++) {
            word = word << 8 | (i < bytes.length ? bytes[i] & 255 : 0);
        }
        return word;
    }

    static byte[] latin(String text) {
        return text.getBytes(java.nio.charset.StandardCharsets.ISO_8859_1);
    }

    static int read(SsaForge x, String text) {
        feedBytes(x, latin(text));
        return x.text();
    }

    static int giveInput(SsaForge x, int... ints) {
        byte[] bytes = new byte[4 * ints.length];
        for (int i = 0; i < bytes.length; i++) {
            bytes[i] = (byte) (ints[i / 4] >> 24 - 8 * (i % 4));
        }
        feedBytes(x, bytes);
        return x.input();
    }

    /** The listing, by list and word. */
    static String listing(SsaForge x) {
        int length = x.list();
        StringBuilder text = new StringBuilder();
        for (int i = 0; i < length; i += 8) {
            long word = x.word(i);
            for (int k = 0; k < 8 && i + k < length; k++) {
                text.append((char) (word >> 56 - 8 * k & 255));
            }
        }
        return text.toString();
    }
}
