/**
 * All that can be seen of an object, as one text: two objects with the same trace are in the same state.
 * Taking it uses the object up, for it undoes the ACTS and loads the tape. These are some 150 calls.
 */
final class Trace {
    private final TagDraw x;
    private final StringBuilder told = new StringBuilder();

    private Trace(TagDraw x) {
        this.x = x;
    }

    static String of(TagDraw x) {
        Trace trace = new Trace(x);
        trace.out();
        trace.list();
        trace.ends();
        trace.undone();
        trace.tape();
        return trace.told.toString();
    }

    private void put(String what, long answer) {
        told.append(what).append(' ').append(answer).append('\n');
    }

    private void out() {
        told.append("out ");
        for (int i = 0; i <= 50; i++) {
            int sign = x.out(i);
            if (sign == TagDraw.NONE) {
                break;
            }
            told.append((char) sign);
        }
        told.append('\n');
    }

    private void list() {
        for (int what = 0; what <= 10; what++) {
            put("many " + what, x.many(what));
        }
        int hunters = x.many(1);
        for (int h = 0; h < hunters; h++) {
            put("points of hunter " + h, x.hunter(h, 0));
            put("party of hunter " + h, x.hunter(h, 2));
            put("unit of hunter " + h, x.hunter(h, 4));
        }
        int units = x.many(0);
        for (int u = 0; u < units; u++) {
            put("quota of unit " + u, x.unit(u, 0));
        }
        int applicants = x.many(3);
        for (int a = 0; a < applicants; a++) {
            int choices = x.applicant(a, 4);
            put("choices of applicant " + a, choices);
            for (int k = 0; k < choices; k++) {
                put("choice " + k, x.choice(a, k));
            }
        }
    }

    /** What is worked out by all ORDERS, and kept perhaps, is of the list as it stands. */
    private void ends() {
        put("winners", x.winners(3));
        int applicants = x.many(3);
        for (int a = 0; a < applicants; a++) {
            put("chance of applicant " + a, x.chance(a, 0));
        }
    }

    private void undone() {
        int acts = x.many(8);
        for (int i = 0; i < acts; i++) {
            put("undo", x.undo());
            list();
        }
        put("undo", x.undo());
    }

    private void tape() {
        put("fault", x.fault(0));
        put("place", x.fault(1));
        int bytes = x.feed(0x20202020, 0x20202020, 0x20202020, 0x20202020, 0x20202020);
        put("feed", bytes);
        put("load", x.load(bytes == TagDraw.NONE ? 700 : bytes));
        put("fault", x.fault(0));
        put("place", x.fault(1));
        list();
    }
}
