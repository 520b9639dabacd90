/** What the tests of the project share: texts on the tape, and the count of wrong answers. */
final class Check {
    private int wrong;

    void due(String call, long got, long want) {
        if (got != want) {
            wrong++;
            System.out.println(call + " answered " + got + ", due is " + want);
        }
    }

    /** A refused call: NONE, and then its STATUS. */
    void refused(String call, TagDraw x, long got, int status) {
        due(call, got, TagDraw.NONE);
        due("status() behind " + call, x.status(), status);
    }

    /** A TEXT without a FAULT, of so many HUNTERS. */
    void fine(String text, int hunters) {
        TagDraw x = new TagDraw();
        due("4: load of \"" + text + "\"", load(x, text), hunters);
        due("5: fault(0) of \"" + text + "\"", x.fault(0), 0);
        due("5: fault(1) of \"" + text + "\"", x.fault(1), TagDraw.NONE);
    }

    void fault(String text, int fault, int place) {
        TagDraw x = new TagDraw();
        refused("4: load of \"" + text + "\"", x, load(x, text), 9);
        due("5: fault(0) of \"" + text + "\"", x.fault(0), fault);
        due("5: fault(1) of \"" + text + "\"", x.fault(1), place);
        due("4: many(1) behind \"" + text + "\"", x.many(1), 0);
    }

    void end(String test) {
        System.out.println(test + ": " + (wrong == 0 ? "all answers are as due" : wrong + " answers are not as due"));
        if (wrong != 0) {
            System.exit(1);
        }
    }

    /** The five ints whose bytes are the twenty signs from a place on; blanks behind the end. */
    static int[] packed(String text, int from) {
        int[] five = new int[5];
        for (int i = 0; i < 20; i++) {
            int sign = from + i < text.length() ? text.charAt(from + i) & 255 : 32;
            five[i / 4] = five[i / 4] << 8 | sign;
        }
        return five;
    }

    static void feed(TagDraw x, String text) {
        for (int from = 0; from < text.length(); from += 20) {
            int[] five = packed(text, from);
            x.feed(five[0], five[1], five[2], five[3], five[4]);
        }
    }

    static int load(TagDraw x, String text) {
        feed(x, text);
        return x.load(text.length());
    }

    /** LINES of so many HUNTERS without POINTS: ha, hb, .. */
    static String hunters(int n) {
        StringBuilder text = new StringBuilder();
        for (int h = 0; h < n; h++) {
            text.append("hunter h").append((char) ('a' + h)).append(" 0;");
        }
        return text.toString();
    }

    static TagDraw of(String text) {
        TagDraw x = new TagDraw();
        if (load(x, text) == TagDraw.NONE) {
            throw new IllegalStateException("fault " + x.fault(0) + " at " + x.fault(1) + " in " + text);
        }
        return x;
    }
}
