/** Small helpers with which tests speak to an object. */
final class Call {
    private Call() {
    }

    interface Question {
        long ask();
    }

    /** The answer, or the name of what was thrown. */
    static String answer(Question question) {
        try {
            return Long.toString(question.ask());
        } catch (RuntimeException e) {
            return "throws." + e.getClass().getSimpleName();
        }
    }

    private interface Feed {
        int feed(int a, int b, int c, int d, int e);
    }

    private interface End {
        int end(int n);
    }

    static void feedBytes(SsaForge x, byte[] bytes) {
        feedBytes(bytes, x.count(7), x::feed, x::end);
    }

    static void feedBytes(Model x, byte[] bytes) {
        feedBytes(bytes, x.count(7), x::feed, x::end);
    }

    /** Twenty bytes at a time; the last twenty may overlap what is there, so that a tape can be filled. */
    private static void feedBytes(byte[] bytes, int kept, Feed feed, End end) {
        for (int i = 0; i < bytes.length; i += 20) {
            int from = kept + i + 20 > 8192 && bytes.length >= 20 ? bytes.length - 20 : i;
            end.end(kept + from);
            feed.feed(word(bytes, from), word(bytes, from + 4), word(bytes, from + 8), word(bytes, from + 12),
                    word(bytes, from + 16));
        }
        end.end(kept + bytes.length);
    }

    private static int word(byte[] bytes, int from) {
        int word = 0;
        for (int i = from; i < from + 4; i++) {
            word = word << 8 | (i < bytes.length ? bytes[i] & 255 : 0);
        }
        return word;
    }

    static byte[] latin(String text) {
        return text.getBytes(java.nio.charset.StandardCharsets.ISO_8859_1);
    }

    static int read(SsaForge x, String text) {
        feedBytes(x, latin(text));
        return x.text();
    }

    static int giveInput(SsaForge x, int... ints) {
        byte[] bytes = new byte[4 * ints.length];
        for (int i = 0; i < bytes.length; i++) {
            bytes[i] = (byte) (ints[i / 4] >> 24 - 8 * (i % 4));
        }
        feedBytes(x, bytes);
        return x.input();
    }

    /** The listing, by list and word. */
    static String listing(SsaForge x) {
        int length = x.list();
        StringBuilder text = new StringBuilder();
        for (int i = 0; i < length; i += 8) {
            long word = x.word(i);
            for (int k = 0; k < 8 && i + k < length; k++) {
                text.append((char) (word >> 56 - 8 * k & 255));
            }
        }
        return text.toString();
    }
}
