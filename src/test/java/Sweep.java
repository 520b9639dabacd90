/** The answers of all calls that only ask, for each UNIT, HUNTER and APPLICANT there is, as one text. */
final class Sweep {
    private static final int SEED = 5;

    private final TagDraw x;
    private final StringBuilder told = new StringBuilder();

    private Sweep(TagDraw x) {
        this.x = x;
    }

    /** These are some 200 calls for four HUNTERS, and some 400 for seven. */
    static String of(TagDraw x) {
        Sweep sweep = new Sweep(x);
        sweep.all();
        int hunters = x.many(1);
        for (int h = 0; h < hunters; h++) {
            sweep.hunter(h);
        }
        int units = x.many(0);
        for (int u = 0; u < units; u++) {
            sweep.unit(u);
        }
        int applicants = x.many(3);
        for (int a = 0; a < applicants; a++) {
            sweep.applicant(a, units);
        }
        int bytes = x.print(SEED);
        sweep.put("bytes", bytes);
        for (int i = 0; i < bytes; i++) {
            sweep.told.append((char) x.out(i));
        }
        return sweep.told.toString();
    }

    private void put(String what, long answer) {
        told.append(what).append(' ').append(answer).append('/').append(x.status()).append('\n');
    }

    private void all() {
        for (int what = 0; what <= 10; what++) {
            put("many", x.many(what));
        }
        put("winners", x.winners(SEED));
        for (int what = 0; what < 2; what++) {
            put("sure", x.sure(what));
            put("given", x.given(what));
        }
        put("ends", x.ends());
        for (int what = 0; what < 3; what++) {
            put("years", x.years(SEED, 9, what));
        }
        put("apart", x.apart(0));
    }

    private void hunter(int h) {
        for (int what = 0; what < 5; what++) {
            put("hunter", x.hunter(h, what));
        }
        put("behind", x.behind(SEED, h));
        put("need", x.need(h, 400));
        put("together", x.together(h, 0));
        put("often", x.often(SEED, 9, h));
        put("soonest", x.soonest(SEED, 9, h));
    }

    private void unit(int u) {
        for (int what = 0; what < 6; what++) {
            put("unit", x.unit(u, what));
        }
        put("demand", x.demand(u, 0));
        for (int what = 0; what < 4; what++) {
            put("left", x.left(SEED, u, what));
        }
        put("waits", x.waits(SEED, u, TagDraw.NONE));
        put("waits", x.waits(SEED, u, 0));
        put("next", x.next(SEED, u, 2));
        put("mean", x.mean(u));
    }

    private void applicant(int a, int units) {
        for (int what = 0; what < 7; what++) {
            put("applicant", x.applicant(a, what));
        }
        put("choice", x.choice(a, 0));
        put("share", x.share(a, 1));
        put("order", x.order(SEED, a));
        put("drawn", x.drawn(SEED, a));
        put("round", x.round(SEED, a));
        put("envies", x.envies(SEED, a));
        put("spoils", x.spoils(SEED, a));
        put("lucky", x.lucky(SEED, a));
        for (int what = 0; what < 3; what++) {
            put("chance", x.chance(a, what));
        }
        for (int u = 0; u < units; u++) {
            put("at", x.at(a, u));
        }
        put("both", x.both(a, 0));
        put("wise", x.wise(a));
        put("wiseChance", x.wiseChance(a));
        put("likes", x.likes(a));
    }
}
