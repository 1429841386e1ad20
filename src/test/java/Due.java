/** What a test says of answers that are not as due. */
final class Due {
    private int asked;
    private int wrong;

    void is(String call, long got, long want) {
        asked++;
        if (got != want) {
            wrong++;
            System.out.println(call + " answered " + got + ", due is " + want);
        }
    }

    void isTrue(String what, boolean so) {
        is(what, so ? 1 : 0, 1);
    }

    /** Puts a text in place of THE TEXT, by eight bytes a call. */
    static void put(GriefGlue glue, String text) {
        glue.clear();
        add(glue, text);
    }

    static void add(GriefGlue glue, String text) {
        for (int start = 0; start < text.length(); start += 8) {
            int end = Math.min(start + 8, text.length());
            long v = 0;
            for (int i = start; i < end; i++) {
                v = v << 8 | text.charAt(i);
            }
            glue.type(v, end - start);
        }
    }

    static GriefGlue shop(String text) {
        GriefGlue glue = new GriefGlue();
        put(glue, text);
        int items = glue.read();
        if (items < 0) {
            throw new IllegalStateException("not a shop: " + text + " " + items);
        }
        return glue;
    }

    void end() {
        System.out.println(asked + " answers, " + wrong + " not as due");
        if (wrong != 0) {
            System.exit(1);
        }
    }
}
