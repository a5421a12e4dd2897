/** Counts the answers that are not as due, and feeds texts and bytes to a common. */
final class Due {
    private final String name;
    private int asked = 0;
    private int wrong = 0;

    Due(String name) {
        this.name = name;
    }

    void is(String call, long got, long want) {
        asked++;
        if (got != want) {
            wrong++;
            System.out.println(name + ": " + call + " answered " + got + ", due is " + want);
        }
    }

    void is(String call, boolean got, boolean want) {
        is(call, got ? 1 : 0, want ? 1 : 0);
    }

    int wrong() {
        return wrong;
    }

    void end() {
        System.out.println(name + ": " + asked + " asked, " + wrong + " wrong");
        if (wrong != 0) {
            System.exit(1);
        }
    }

    /** Feeds bytes, filled up with 'a' to a multiple of twenty. */
    static void feed(GrownInitials g, int... bytes) {
        int[] full = new int[(bytes.length + 19) / 20 * 20];
        java.util.Arrays.fill(full, 'a');
        System.arraycopy(bytes, 0, full, 0, bytes.length);
        for (int i = 0; i < full.length; i += 20) {
            g.feed(word(full, i), word(full, i + 4), word(full, i + 8), word(full, i + 12), word(full, i + 16));
        }
    }

    static int word(int[] bytes, int at) {
        return bytes[at] << 24 | (bytes[at + 1] & 255) << 16 | (bytes[at + 2] & 255) << 8 | bytes[at + 3] & 255;
    }

    static int[] bytesOf(String text) {
        int[] bytes = new int[text.length()];
        for (int i = 0; i < bytes.length; i++) {
            bytes[i] = text.charAt(i);
        }
        return bytes;
    }

    static int bark(GrownInitials g, String text) {
        feed(g, bytesOf(text));
        return g.bark(text.length());
    }

    static int law(GrownInitials g, String text) {
        feed(g, bytesOf(text));
        return g.law(text.length());
    }

    static GrownInitials common(String bark) {
        GrownInitials g = new GrownInitials();
        bark(g, bark);
        return g;
    }

    static GrownInitials common(String bark, String law) {
        GrownInitials g = common(bark);
        law(g, law);
        return g;
    }
}
