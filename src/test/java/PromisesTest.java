/** Promises 6 to 50, with answers worked out by hand; the numbers ahead of the calls are the promises'. */
public final class PromisesTest {
    private static final Check CHECK = new Check();
    private static final int NONE = TagDraw.NONE;

    /** Three alike for two tags. ORDERS of the seeds 0, 1, 2, 5: 0 1 2, 2 0 1, 2 1 0, 1 2 0. */
    private static final String PLAIN =
        "unit u 2;hunter a 0;hunter b 3;hunter c 1 guest;asks a u;asks b u;asks c u;";
    /** APPLICANTS: c (0), d (1, without CHOICES), p (2). ORDERS of the seeds 0, 1: 0 1 2, 1 2 0. */
    private static final String MIXED = "unit u 2;unit v 1;unit w 0;hunter a 4;hunter b 3;hunter c 0 guest;hunter d 20;"
        + "party p a b;asks p u v;asks c v u;law line;prefer 50;guests 50;";
    /** b and c are equal in the first round; d is a guest where there is no room for one. ORDERS: 0 1 2 3, 2 1 3 0. */
    private static final String RANKED = "unit u 2;hunter a 1;hunter b 5;hunter c 5;hunter d 9 guest;"
        + "asks a u;asks b u;asks c u;asks d u;prefer 50;guests 0;";
    /** TICKETS 2 and 1 for one tag. */
    private static final String TWO = "unit u 1;hunter a 1;hunter b 0;asks a u;asks b u;law line;";
    /** ORDERS of the seeds 0 to 9: a first by 0, 1, 2, 6, 7, 8, 9, b first by 3, 4, 5. */
    private static final String PAIR = "unit u 1;unit v 1;hunter a 0;hunter b 0;asks a u;asks b u v;";

    public static void main(String[] args) {
        whoThereIs();
        terms();
        bySeed();
        roundsBySeed();
        waiting();
        standingInTheWay();
        chances();
        chancesOfEnds();
        chancesIf();
        chancesOfParties();
        tooMany();
        noSuch();
        years();
        draws();
        acts();
        choices();
        splits();
        undone();
        printed();
        CHECK.end("PromisesTest");
    }

    private static void whoThereIs() {
        TagDraw x = Check.of(MIXED);
        int[] many = {3, 4, 1, 3, 1, 50, 50, 0, 0, 3, 1};
        for (int what = 0; what < many.length; what++) {
            CHECK.due("6: many(" + what + ")", x.many(what), many[what]);
        }
        CHECK.refused("6: many(-1)", x, x.many(-1), 1);
        CHECK.refused("6: many(11)", x, x.many(11), 1);

        int[][] hunters = {{4, 0, 0, 2, NONE}, {3, 0, 0, 2, NONE}, {0, 1, NONE, 0, NONE}, {20, 0, NONE, 1, NONE}};
        for (int h = 0; h < 4; h++) {
            for (int what = 0; what < 5; what++) {
                CHECK.due("7: hunter(" + h + ", " + what + ")", x.hunter(h, what), hunters[h][what]);
                CHECK.due("7: status()", x.status(), 0);
            }
        }
        CHECK.refused("7: hunter(4, 5)", x, x.hunter(4, 5), 1);
        CHECK.refused("7: hunter(0, -1)", x, x.hunter(0, -1), 1);
        CHECK.refused("7: hunter(4, 0)", x, x.hunter(4, 0), 2);
        CHECK.refused("7: hunter(-1, 0)", x, x.hunter(-1, 0), 2);

        int[][] units = {{2, 1, 1, 1, 2, 2}, {1, 0, 0, 1, 1, 2}, {0, 0, 0, 0, 0, 0}};
        for (int u = 0; u < 3; u++) {
            for (int what = 0; what < 6; what++) {
                CHECK.due("8: unit(" + u + ", " + what + ")", x.unit(u, what), units[u][what]);
            }
        }
        CHECK.refused("8: unit(3, 6)", x, x.unit(3, 6), 1);
        CHECK.refused("8: unit(0, -1)", x, x.unit(0, -1), 1);
        CHECK.refused("8: unit(3, 0)", x, x.unit(3, 0), 2);
        CHECK.refused("8: unit(-1, 0)", x, x.unit(-1, 0), 2);

        int[][] applicants = {{1, 1, 0, 1, 2, 4, NONE}, {1, 0, 20, 21, 0, 8, NONE}, {2, 0, 3, 4, 2, 3, 0}};
        for (int a = 0; a < 3; a++) {
            for (int what = 0; what < 7; what++) {
                CHECK.due("9: applicant(" + a + ", " + what + ")", x.applicant(a, what), applicants[a][what]);
                CHECK.due("9: status()", x.status(), 0);
            }
        }
        CHECK.refused("9: applicant(3, 7)", x, x.applicant(3, 7), 1);
        CHECK.refused("9: applicant(0, -1)", x, x.applicant(0, -1), 1);
        CHECK.refused("9: applicant(3, 0)", x, x.applicant(3, 0), 2);
        CHECK.refused("9: applicant(-1, 0)", x, x.applicant(-1, 0), 2);
        x.law(2);
        CHECK.due("9: TICKETS by squares", x.applicant(1, 3), 401);
        x.law(0);
        CHECK.due("9: TICKETS, plain", x.applicant(1, 3), 1);
    }

    private static void terms() {
        TagDraw x = Check.of(MIXED);
        CHECK.due("10: choice(0, 0)", x.choice(0, 0), 1);
        CHECK.due("10: choice(0, 1)", x.choice(0, 1), 0);
        CHECK.due("10: choice(2, 0)", x.choice(2, 0), 0);
        CHECK.refused("10: choice(0, 2)", x, x.choice(0, 2), 5);
        CHECK.refused("10: choice(1, 0)", x, x.choice(1, 0), 5);
        CHECK.refused("10: choice(3, -1)", x, x.choice(3, -1), 1);
        CHECK.refused("10: choice(3, 0)", x, x.choice(3, 0), 2);
        CHECK.refused("10: choice(-1, 9)", x, x.choice(-1, 9), 2);

        CHECK.due("11: demand(0, 0)", x.demand(0, 0), 1);
        CHECK.due("11: demand(0, 1)", x.demand(0, 1), 1);
        CHECK.refused("11: demand(2, 0)", x, x.demand(2, 0), 5);
        CHECK.refused("11: demand(3, 2)", x, x.demand(3, 2), 1);
        CHECK.refused("11: demand(0, -1)", x, x.demand(0, -1), 1);
        CHECK.refused("11: demand(3, 0)", x, x.demand(3, 0), 2);
        x.quota(2, 6);
        CHECK.due("11: demand(2, 0) for none", x.demand(2, 0), 0);
        CHECK.due("11: demand(2, 1) for none", x.demand(2, 1), 1);
        x.quota(0, 6);
        CHECK.due("11: demand(0, 0) of 2 by 6", x.demand(0, 0), 1);
        CHECK.due("11: demand(0, 1) of 2 by 6", x.demand(0, 1), 3);

        CHECK.due("12: share(2, 0)", x.share(2, 0), 2);
        CHECK.due("12: share(2, 1)", x.share(2, 1), 13);
        CHECK.due("12: share(1, 0)", x.share(1, 0), 21);
        CHECK.due("12: share(1, 1)", x.share(1, 1), 26);
        CHECK.refused("12: share(3, 2)", x, x.share(3, 2), 1);
        CHECK.refused("12: share(3, 0)", x, x.share(3, 0), 2);
        TagDraw one = Check.of("hunter a 5;law square;");
        CHECK.due("12: share(0, 0) alone", one.share(0, 0), 1);
        CHECK.due("12: share(0, 1) alone", one.share(0, 1), 1);
    }

    private static void bySeed() {
        TagDraw x = Check.of(MIXED);
        int[][] orders = {{0, 1, 2}, {1, 2, 0}, {2, 1, 0}};
        for (int seed = 0; seed < 3; seed++) {
            for (int k = 0; k < 3; k++) {
                CHECK.due("13: order(" + seed + ", " + k + ")", x.order(seed, k), orders[seed][k]);
            }
        }
        CHECK.due("13: order(999999999, 1)", x.order(999999999, 1), 0);
        CHECK.refused("13: order(1000000000, 0)", x, x.order(1000000000, 0), 1);
        CHECK.refused("13: order(-1, 9)", x, x.order(-1, 9), 1);
        CHECK.refused("13: order(0, -1)", x, x.order(0, -1), 1);
        CHECK.refused("13: order(0, 3)", x, x.order(0, 3), 5);
        // All ten alike: the whole row of seed 0.
        TagDraw ten = Check.of("hunter a 0;hunter b 0;hunter c 0;hunter d 0;hunter e 0;hunter f 0;hunter g 0;"
            + "hunter h 0;hunter i 0;hunter j 0;");
        int[] row = {0, 4, 6, 7, 1, 5, 3, 8, 2, 9};
        for (int k = 0; k < 10; k++) {
            CHECK.due("13: order(0, " + k + ") of ten", ten.order(0, k), row[k]);
        }

        CHECK.due("14: drawn(0, 0)", x.drawn(0, 0), 0);
        CHECK.refused("14: drawn(0, 1)", x, x.drawn(0, 1), 5);
        CHECK.refused("14: drawn(0, 2)", x, x.drawn(0, 2), 5);
        CHECK.due("14: drawn(1, 2)", x.drawn(1, 2), 0);
        CHECK.refused("14: drawn(1, 0)", x, x.drawn(1, 0), 5);
        CHECK.refused("14: drawn(-1, 9)", x, x.drawn(-1, 9), 1);
        CHECK.refused("14: drawn(0, 3)", x, x.drawn(0, 3), 2);

        // v has a tag for c, but no share for a guest: it has its second CHOICE.
        int[] left0 = {1, 0, 1, 0};
        int[] left1 = {0, 1, 1, 3};
        for (int what = 0; what < 4; what++) {
            CHECK.due("16: left(0, 0, " + what + ")", x.left(0, 0, what), left0[what]);
            CHECK.due("16: left(1, 0, " + what + ")", x.left(1, 0, what), left1[what]);
        }
        CHECK.due("16: left(0, 1, 2)", x.left(0, 1, 2), 0);
        CHECK.refused("16: left(0, 1, 3)", x, x.left(0, 1, 3), 5);
        CHECK.refused("16: left(0, 3, 4)", x, x.left(0, 3, 4), 1);
        CHECK.refused("16: left(0, 0, -1)", x, x.left(0, 0, -1), 1);
        CHECK.refused("16: left(1000000000, 0, 0)", x, x.left(1000000000, 0, 0), 1);
        CHECK.refused("16: left(0, 3, 0)", x, x.left(0, 3, 0), 2);

        CHECK.due("17: winners(0)", x.winners(0), 4);
        CHECK.due("17: winners(1)", x.winners(1), 3);
        CHECK.refused("17: winners(-1)", x, x.winners(-1), 1);
        CHECK.refused("17: winners(1000000000)", x, x.winners(1000000000), 1);

        int[] behind0 = {5, 4, 0, 20};
        int[] behind1 = {0, 0, 1, 20};
        for (int h = 0; h < 4; h++) {
            CHECK.due("22: behind(0, " + h + ")", x.behind(0, h), behind0[h]);
            CHECK.due("22: behind(1, " + h + ")", x.behind(1, h), behind1[h]);
        }
        CHECK.refused("22: behind(-1, 9)", x, x.behind(-1, 9), 1);
        CHECK.refused("22: behind(0, 4)", x, x.behind(0, 4), 2);
        TagDraw most = Check.of("unit u 0;hunter a 19;hunter b 20;asks a u;asks b u;");
        CHECK.due("22: behind(0, 0) from 19", most.behind(0, 0), 20);
        CHECK.due("22: behind(0, 1) from 20", most.behind(0, 1), 20);

        TagDraw lots = Check.of(PAIR);
        CHECK.due("23: lucky(0, 0)", lots.lucky(0, 0), 0);
        CHECK.due("23: lucky(0, 1)", lots.lucky(0, 1), 3);
        CHECK.due("23: lucky(4, 0)", lots.lucky(4, 0), 6);
        CHECK.due("23: lucky(999999949, 1)", lots.lucky(999999949, 1), 999999951);
        // 1 of 402 TICKETS: ahead by no SEED from 279 to 328.
        TagDraw rare = Check.of("unit u 1;hunter a 0;hunter b 20;asks a u;asks b u;law square;");
        CHECK.due("23: lucky(280, 0) by the last of 50", rare.lucky(280, 0), 329);
        CHECK.refused("23: lucky(279, 0) by the next one", rare, rare.lucky(279, 0), 5);
        CHECK.refused("23: lucky(999999950, 0)", lots, lots.lucky(999999950, 0), 1);
        CHECK.refused("23: lucky(-1, 9)", lots, lots.lucky(-1, 9), 1);
        CHECK.refused("23: lucky(0, 2)", lots, lots.lucky(0, 2), 2);
        lots.quota(0, 0);
        CHECK.refused("23: lucky(0, 1) for a second CHOICE only", lots, lots.lucky(0, 1), 5);
    }

    private static void roundsBySeed() {
        TagDraw x = Check.of(RANKED);
        CHECK.due("15: round(0, 1)", x.round(0, 1), 1);
        CHECK.due("15: round(0, 0)", x.round(0, 0), 2);
        CHECK.refused("15: round(0, 2)", x, x.round(0, 2), 5);
        CHECK.refused("15: round(0, 3)", x, x.round(0, 3), 5);
        CHECK.due("15: round(1, 2)", x.round(1, 2), 1);
        CHECK.due("15: round(1, 1)", x.round(1, 1), 2);
        CHECK.refused("15: round(1, 0)", x, x.round(1, 0), 5);
        CHECK.refused("15: round(-1, 9)", x, x.round(-1, 9), 1);
        CHECK.refused("15: round(0, 4)", x, x.round(0, 4), 2);
        x.guests(50);
        CHECK.due("15: round(0, 3) with room for one guest", x.round(0, 3), 1);
        CHECK.due("16: left(0, 0, 1) then", x.left(0, 0, 1), 0);

        // A party that does not fit is passed over, with all its points.
        TagDraw y = Check.of("unit u 2;hunter a 9;hunter b 9;hunter c 1;party p a b;asks p u;asks c u;prefer 50;");
        for (int seed = 0; seed < 5; seed++) {
            CHECK.due("15: round(" + seed + ", 0)", y.round(seed, 0), 1);
            CHECK.refused("15: round(" + seed + ", 1)", y, y.round(seed, 1), 5);
        }
        y.prefer(100);
        CHECK.due("15: round(0, 1)", y.round(0, 1), 1);
        // The first round is for first CHOICES alone.
        TagDraw z = Check.of("unit u 1;unit v 1;hunter a 0;hunter b 9;asks a v;asks b u v;prefer 100;");
        z.quota(0, 0);
        CHECK.due("15: round(3, 0)", z.round(3, 0), 1);
        CHECK.refused("15: round(3, 1)", z, z.round(3, 1), 5);
    }

    private static void waiting() {
        TagDraw x = Check.of(MIXED);
        CHECK.due("18: waits(0, 0, NONE)", x.waits(0, 0, NONE), 1);
        CHECK.due("18: waits(0, 0, 0)", x.waits(0, 0, 0), 2);
        CHECK.due("18: waits(0, 1, 0)", x.waits(0, 1, 0), 2);
        CHECK.refused("18: waits(0, 0, 1)", x, x.waits(0, 0, 1), 5);
        CHECK.due("18: waits(0, 2, NONE)", x.waits(0, 2, NONE), 0);
        CHECK.refused("18: waits(0, 2, 0)", x, x.waits(0, 2, 0), 5);
        CHECK.refused("18: waits(0, 3, -2)", x, x.waits(0, 3, -2), 1);
        CHECK.refused("18: waits(-1, 0, 0)", x, x.waits(-1, 0, 0), 1);
        CHECK.refused("18: waits(0, 3, 0)", x, x.waits(0, 3, 0), 2);
        TagDraw row = Check.of("unit u 0;hunter a 0;hunter b 9;hunter c 0;asks a u;asks b u;asks c u;");
        int[] order = {2, 0, 1};
        for (int k = 0; k < 3; k++) {
            CHECK.due("18: waits(1, 0, " + k + ")", row.waits(1, 0, k), order[k]);
        }
        CHECK.due("19: next(1, 0, 1)", row.next(1, 0, 1), 2);

        CHECK.due("19: next(0, 0, 1)", x.next(0, 0, 1), 2);
        CHECK.refused("19: next(0, 0, 0)", x, x.next(0, 0, 0), 5);
        CHECK.due("19: next(0, 1, 1)", x.next(0, 1, 1), 2);
        CHECK.due("19: next(1, 0, 1)", x.next(1, 0, 1), 0);
        CHECK.due("19: next(1, 1, 1): one more for guests, too", x.next(1, 1, 1), 0);
        CHECK.refused("19: next(0, 2, 20)", x, x.next(0, 2, 20), 5);
        CHECK.refused("19: next(0, 3, 21)", x, x.next(0, 3, 21), 1);
        CHECK.refused("19: next(0, 0, -1)", x, x.next(0, 0, -1), 1);
        CHECK.refused("19: next(1000000000, 0, 1)", x, x.next(1000000000, 0, 1), 1);
        CHECK.refused("19: next(0, 3, 1)", x, x.next(0, 3, 1), 2);
    }

    private static void standingInTheWay() {
        TagDraw x = Check.of(MIXED);
        CHECK.due("20: envies(0, 2)", x.envies(0, 2), 1);
        CHECK.due("20: envies(0, 1)", x.envies(0, 1), 0);
        CHECK.due("20: envies(0, 0)", x.envies(0, 0), 0);
        CHECK.due("20: envies(1, 0) those with more points", x.envies(1, 0), 0);
        CHECK.refused("20: envies(-1, 9)", x, x.envies(-1, 9), 1);
        CHECK.refused("20: envies(0, 3)", x, x.envies(0, 3), 2);
        TagDraw y = Check.of(PAIR);
        CHECK.due("20: envies(0, 1) with as many points", y.envies(0, 1), 0);
        y.points(1, 1);
        CHECK.due("20: envies(0, 1) behind its first CHOICE", y.envies(0, 1), 1);
        y.choose(1, 1, 0, NONE);
        TagDraw same = Check.of("unit u 0;unit v 2;hunter a 9;hunter b 0;asks a u v;asks b v;");
        CHECK.due("20: envies(0, 0) that has the same", same.envies(0, 0), 0);
        CHECK.due("20: envies(0, 1) with its first CHOICE", y.envies(0, 1), 0);

        CHECK.due("21: spoils(0, 0)", x.spoils(0, 0), 4);
        CHECK.due("21: spoils(0, 2)", x.spoils(0, 2), 0);
        CHECK.due("21: spoils(1, 2)", x.spoils(1, 2), 1);
        CHECK.due("21: spoils(0, 1)", x.spoils(0, 1), 0);
        CHECK.due("21: choice(0, 0) as ever", x.choice(0, 0), 1);
        CHECK.refused("21: spoils(-1, 9)", x, x.spoils(-1, 9), 1);
        CHECK.refused("21: spoils(0, -1)", x, x.spoils(0, -1), 2);
        TagDraw z = Check.of(PAIR);
        CHECK.due("21: spoils(0, 0) a CHOICE further ahead", z.spoils(0, 0), 2);
        CHECK.due("21: spoils(0, 1)", z.spoils(0, 1), 0);
    }

    private static void chances() {
        TagDraw x = Check.of(TWO);
        CHECK.due("24: chance(0, 0)", x.chance(0, 0), 666666666666L);
        CHECK.due("24: chance(1, 0)", x.chance(1, 0), 333333333333L);
        CHECK.due("24: chance(0, 1)", x.chance(0, 1), 666666666666L);
        CHECK.due("24: chance(0, 2)", x.chance(0, 2), 0);
        CHECK.refused("24: chance(2, 3)", x, x.chance(2, 3), 1);
        CHECK.refused("24: chance(0, -1)", x, x.chance(0, -1), 1);
        CHECK.refused("24: chance(2, 0)", x, x.chance(2, 0), 2);
        x.points(0, 2);
        CHECK.due("24: chance(0, 0) one by one", x.chance(0, 0), 750000000000L);
        x.law(2);
        CHECK.due("24: chance(0, 0) by squares", x.chance(0, 0), 833333333333L);
        x.prefer(100);
        CHECK.due("24: chance(0, 2) by points", x.chance(0, 2), 999999999999L);
        CHECK.due("24: chance(1, 0) by points", x.chance(1, 0), 0);
        TagDraw none = Check.of("unit u 1;hunter a 0;");
        CHECK.due("24: chance(0, 0) without CHOICES", none.chance(0, 0), 0);
        CHECK.due("24: chance(0, 1) without CHOICES", none.chance(0, 1), 0);

        TagDraw y = Check.of(PAIR);
        CHECK.due("24: chance(1, 0)", y.chance(1, 0), 1000000000000L);
        CHECK.due("24: chance(1, 1)", y.chance(1, 1), 500000000000L);
        CHECK.due("25: at(1, 0)", y.at(1, 0), 500000000000L);
        CHECK.due("25: at(1, 1)", y.at(1, 1), 500000000000L);
        CHECK.due("25: at(0, 1)", y.at(0, 1), 0);
        CHECK.refused("25: at(2, 0)", y, y.at(2, 0), 2);
        CHECK.refused("25: at(0, 2)", y, y.at(0, 2), 2);
        CHECK.refused("25: at(0, -1)", y, y.at(0, -1), 2);
        CHECK.due("26: both(0, 1)", y.both(0, 1), 500000000000L);
        CHECK.refused("26: both(0, 0)", y, y.both(0, 0), 4);
        CHECK.refused("26: both(2, 2)", y, y.both(2, 2), 2);
        CHECK.refused("26: both(0, -1)", y, y.both(0, -1), 2);
        CHECK.due("28: mean(0)", y.mean(0), 1000000000000L);
        CHECK.due("28: mean(1)", y.mean(1), 500000000000L);
        CHECK.refused("28: mean(2)", y, y.mean(2), 2);
        TagDraw party = Check.of("unit u 3;hunter a 0;hunter b 0;party p a b;asks p u;");
        CHECK.due("28: mean(0) of a party", party.mean(0), 2000000000000L);
    }

    private static void chancesOfEnds() {
        TagDraw x = Check.of(MIXED);
        CHECK.due("27: sure(0)", x.sure(0), 0);
        CHECK.due("27: sure(1)", x.sure(1), 2);
        CHECK.refused("27: sure(2)", x, x.sure(2), 1);
        CHECK.refused("27: sure(-1)", x, x.sure(-1), 1);
        CHECK.due("29: given(0)", x.given(0), 1);
        CHECK.due("29: given(1)", x.given(1), 2);
        CHECK.refused("29: given(2)", x, x.given(2), 1);
        CHECK.refused("29: given(-1)", x, x.given(-1), 1);
        CHECK.due("30: ends()", x.ends(), 2);

        TagDraw y = Check.of(RANKED);
        CHECK.due("27: sure(0)", y.sure(0), 0);
        CHECK.due("27: sure(1)", y.sure(1), 8);
        // Of b and c the first one, and then of the other one and a: three pairs.
        CHECK.due("30: ends()", y.ends(), 3);
        y.quota(0, 3);
        CHECK.due("27: sure(0) with three tags", y.sure(0), 7);
        CHECK.due("30: ends() with three tags", y.ends(), 1);
        // 1,000,000,000,000 by 4, by 3, by 2, each cut, for each of 24 ORDERS.
        CHECK.due("24: chance(1, 0)", y.chance(1, 0), 999999999984L);

        TagDraw nobody = Check.of("unit u 0;hunter a 0;hunter b 0;asks a u;");
        CHECK.due("27: sure(0) of nobody", nobody.sure(0), 0);
        CHECK.due("27: sure(1) of nobody", nobody.sure(1), 3);
        CHECK.due("29: given(0) of nobody", nobody.given(0), 0);
        CHECK.due("29: given(1) of nobody", nobody.given(1), 0);
        CHECK.due("30: ends() of nobody", nobody.ends(), 1);

        // The six ahead of the seventh have no PARTS at all; it is an ORDER all the same.
        TagDraw z = Check.of("unit u 6;hunter a 20;hunter b 0;hunter c 0;hunter d 0;hunter e 0;hunter f 0;hunter g 0;"
            + "asks a u;asks b u;asks c u;asks d u;asks e u;asks f u;asks g u;law square;");
        CHECK.due("30: ends()", z.ends(), 7);
        CHECK.due("27: sure(0)", z.sure(0), 0);
    }

    private static void chancesIf() {
        TagDraw x = Check.of(TWO);
        int[][] needs = {{0, 0}, {333, 0}, {334, 1}, {500, 1}, {501, 2}, {600, 2}, {913, 20}};
        for (int[] need : needs) {
            CHECK.due("31: need(1, " + need[0] + ")", x.need(1, need[0]), need[1]);
        }
        CHECK.refused("31: need(1, 914)", x, x.need(1, 914), 5);
        CHECK.refused("31: need(1, 1000)", x, x.need(1, 1000), 5);
        CHECK.refused("31: need(2, 1001)", x, x.need(2, 1001), 1);
        CHECK.refused("31: need(0, -1)", x, x.need(0, -1), 1);
        CHECK.refused("31: need(2, 0)", x, x.need(2, 0), 2);
        CHECK.due("31: hunter(1, 0) as ever", x.hunter(1, 0), 0);
        CHECK.due("31: many(8) as ever", x.many(8), 0);
        TagDraw party = Check.of(MIXED);
        CHECK.refused("31: need(0, 0) in a party", party, party.need(0, 0), 7);

        TagDraw y = Check.of("unit u 1;unit v 1;hunter a 0;hunter b 0;asks a u;asks b u;");
        CHECK.due("32: wise(0)", y.wise(0), 1);
        CHECK.due("33: wiseChance(0)", y.wiseChance(0), 1000000000000L);
        y.quota(1, 0);
        CHECK.due("32: wise(0) with no tags of v", y.wise(0), 0);
        CHECK.due("33: wiseChance(0) then", y.wiseChance(0), 500000000000L);
        y.quota(0, 0);
        CHECK.due("32: wise(0) of several the first", y.wise(0), 0);
        CHECK.due("33: wiseChance(0) of none", y.wiseChance(0), 0);
        CHECK.refused("32: wise(2)", y, y.wise(2), 2);
        CHECK.refused("33: wiseChance(-1)", y, y.wiseChance(-1), 2);
        CHECK.due("32: applicant(0, 4) as ever", y.applicant(0, 4), 1);
        TagDraw bare = Check.of("hunter a 0;");
        CHECK.refused("32: wise(0) without units", bare, bare.wise(0), 5);
        CHECK.refused("33: wiseChance(0) without units", bare, bare.wiseChance(0), 5);

        CHECK.due("36: likes(0) of line and square alike", x.likes(0), 1);
        CHECK.due("36: likes(1)", x.likes(1), 0);
        x.points(0, 2);
        CHECK.due("36: likes(0)", x.likes(0), 2);
        CHECK.refused("36: likes(2)", x, x.likes(2), 2);
        CHECK.due("36: many(4) as ever", x.many(4), 1);
    }

    private static void chancesOfParties() {
        TagDraw x = Check.of("unit u 2;unit v 2;hunter a 4;hunter b 1;hunter c 0;asks a u;asks b v;asks c u;law line;");
        // POINTS 2, so 3 of 4 TICKETS: with c ahead, too little is left of u.
        CHECK.due("34: together(0, 1)", x.together(0, 1), 750000000000L);
        CHECK.due("34: together(1, 0)", x.together(1, 0), 1000000000000L);
        CHECK.due("34: together(0, 2)", x.together(0, 2), 1000000000000L);
        CHECK.refused("34: together(0, 0)", x, x.together(0, 0), 4);
        CHECK.refused("34: together(3, 3)", x, x.together(3, 3), 2);
        CHECK.refused("34: together(0, -1)", x, x.together(0, -1), 2);
        CHECK.due("34: many(2) as ever", x.many(2), 0);
        CHECK.due("34: many(3) as ever", x.many(3), 3);
        TagDraw party = Check.of(MIXED);
        CHECK.refused("34: together(0, 2)", party, party.together(0, 2), 7);
        CHECK.refused("34: together(2, 1)", party, party.together(2, 1), 7);
        TagDraw second = Check.of("unit u 0;unit v 2;unit w 0;hunter a 0;hunter b 0;asks a u v;asks b u w v;");
        CHECK.due("34: together(0, 1) by a second CHOICE", second.together(0, 1), 1000000000000L);
        CHECK.due("34: together(1, 0) by a third CHOICE", second.together(1, 0), 1000000000000L);
        // A fifth party, if only in thought.
        TagDraw five = Check.of(Check.hunters(10) + "unit u 2;party p ha hb;party q hc hd;party r he hf;party s hg hh;"
            + "asks hi u;");
        CHECK.due("34: together(8, 9)", five.together(8, 9), 120 * 8333333333L);
        CHECK.due("34: together(9, 8)", five.together(9, 8), 0);
        // Eight are seven then: 1,000,000,000,000 by 7, 6, 5, 4, 3 and 2, each cut, for 5040 ORDERS.
        TagDraw eight = Check.of(Check.hunters(8) + "unit u 2;asks ha u;");
        CHECK.due("34: together(0, 1) of eight", eight.together(0, 1), 999999997920L);
        CHECK.refused("24: chance(0, 0) of eight", eight, eight.chance(0, 0), 3);

        TagDraw y = Check.of("unit u 2;hunter a 0;hunter b 0;hunter c 0;party p a b;asks p u;asks c u;");
        CHECK.due("35: apart(0)", y.apart(0), 333333333332L);
        CHECK.refused("35: apart(1)", y, y.apart(1), 2);
        CHECK.refused("35: apart(-1)", y, y.apart(-1), 2);
        CHECK.due("35: many(2) as ever", y.many(2), 1);
        y.quota(0, 1);
        CHECK.due("35: apart(0) for one tag", y.apart(0), 0);
        y.quota(0, 3);
        CHECK.due("35: apart(0) for three", y.apart(0), 999999999996L);
        TagDraw seven = Check.of(Check.hunters(8) + "party p ha hb;");
        CHECK.refused("35: apart(0) into eight", seven, seven.apart(0), 3);
        CHECK.due("35: chance(6, 0) of the seven", seven.chance(6, 0), 0);
        CHECK.due("35: status()", seven.status(), 0);
    }

    private static void tooMany() {
        TagDraw x = Check.of("unit u 1;" + Check.hunters(10) + "party p ha hb;asks p u;asks hc u;");
        CHECK.due("6: many(3)", x.many(3), 9);
        CHECK.refused("24: chance", x, x.chance(0, 0), 3);
        CHECK.refused("24: chance", x, x.chance(0, 3), 1);
        CHECK.refused("24: chance", x, x.chance(9, 0), 2);
        CHECK.refused("25: at", x, x.at(0, 0), 3);
        CHECK.refused("26: both", x, x.both(0, 1), 3);
        CHECK.refused("26: both, 4 ahead of 3", x, x.both(0, 0), 4);
        CHECK.refused("27: sure", x, x.sure(0), 3);
        CHECK.refused("28: mean", x, x.mean(0), 3);
        CHECK.refused("29: given", x, x.given(0), 3);
        CHECK.refused("30: ends", x, x.ends(), 3);
        CHECK.refused("31: need", x, x.need(2, 0), 3);
        CHECK.refused("31: need, 7 ahead of 3", x, x.need(0, 0), 7);
        CHECK.refused("32: wise", x, x.wise(0), 3);
        CHECK.refused("33: wiseChance", x, x.wiseChance(0), 3);
        CHECK.refused("34: together", x, x.together(2, 3), 3);
        CHECK.refused("34: together, 7 ahead of 3", x, x.together(0, 3), 7);
        CHECK.refused("34: together, 4 ahead of 3", x, x.together(3, 3), 4);
        CHECK.refused("35: apart", x, x.apart(0), 3);
        CHECK.refused("36: likes", x, x.likes(0), 3);
        CHECK.due("13: order is for any number", x.order(0, 0), 0);
        notTooMany();
        TagDraw bare = Check.of(Check.hunters(8));
        CHECK.refused("32: wise, 3 ahead of 5", bare, bare.wise(0), 3);
    }

    /** Seven are answered for; 1,000,000,000,000 by 7, 6, 5, 4, 3 and 2, each cut, for 5040 ORDERS. */
    private static void notTooMany() {
        long all = 999999997920L;
        TagDraw x = Check.of(Check.hunters(7) + "unit u 1;asks ha u;");
        CHECK.due("24: chance of seven", x.chance(0, 0), all);
        CHECK.due("25: at of seven", x.at(0, 0), all);
        CHECK.due("26: both of seven", x.both(0, 6), 0);
        CHECK.due("27: sure(0) of seven", x.sure(0), 1);
        CHECK.due("27: sure(1) of seven", x.sure(1), 126);
        CHECK.due("28: mean of seven", x.mean(0), all);
        CHECK.due("29: given of seven", x.given(0), 1);
        CHECK.due("30: ends of seven", x.ends(), 1);
        CHECK.due("31: need of seven", x.need(0, 999), 0);
        CHECK.refused("31: need of seven, cut", x, x.need(0, 1000), 5);
        CHECK.due("32: wise of seven", x.wise(6), 0);
        CHECK.due("33: wiseChance of seven", x.wiseChance(0), all);
        CHECK.due("36: likes of seven", x.likes(0), 0);
        TagDraw party = Check.of(Check.hunters(7) + "unit u 2;party p hf hg;asks p u;");
        CHECK.due("35: apart into seven", party.apart(0), all);
    }

    private static void noSuch() {
        TagDraw x = Check.of(PLAIN);
        int[] numbers = {-1, 3, 10, Integer.MIN_VALUE, Integer.MAX_VALUE};
        for (int n : numbers) {
            CHECK.refused("7: hunter(" + n + ", 0)", x, x.hunter(n, 0), 2);
            CHECK.refused("9: applicant(" + n + ", 0)", x, x.applicant(n, 0), 2);
            CHECK.refused("8: unit(" + n + ", 0)", x, x.unit(n, 0), 2);
            CHECK.refused("10: choice(" + n + ", 0)", x, x.choice(n, 0), 2);
            CHECK.refused("24: chance(" + n + ", 0)", x, x.chance(n, 0), 2);
            CHECK.refused("36: likes(" + n + ")", x, x.likes(n), 2);
            CHECK.refused("38: often(0, 1, " + n + ")", x, x.often(0, 1, n), 2);
            CHECK.refused("47: split(" + n + ")", x, x.split(n), 2);
        }
        CHECK.refused("13: order(MIN, 0)", x, x.order(Integer.MIN_VALUE, 0), 1);
        CHECK.refused("13: order(MAX, 0)", x, x.order(Integer.MAX_VALUE, 0), 1);
        CHECK.refused("13: order(0, MAX)", x, x.order(0, Integer.MAX_VALUE), 5);
        CHECK.refused("37: years(MAX, MAX, 0)", x, x.years(Integer.MAX_VALUE, Integer.MAX_VALUE, 0), 1);
        CHECK.refused("37: years(0, MIN, 0)", x, x.years(0, Integer.MIN_VALUE, 0), 1);
        CHECK.refused("10: choice(0, MAX)", x, x.choice(0, Integer.MAX_VALUE), 5);
        CHECK.refused("18: waits(0, 0, MIN)", x, x.waits(0, 0, Integer.MIN_VALUE), 1);
        CHECK.refused("50: out(MIN)", x, x.out(Integer.MIN_VALUE), 1);
    }

    private static void years() {
        TagDraw x = Check.of("unit u 1;hunter a 0;hunter b 0;asks a u;asks b u;");
        CHECK.due("37: years(0, 4, 0)", x.years(0, 4, 0), 4);
        CHECK.due("37: years(0, 30, 0)", x.years(0, 30, 0), 30);
        CHECK.due("37: years(0, 3, 1)", x.years(0, 3, 1), 2);
        CHECK.due("37: years(0, 4, 1)", x.years(0, 4, 1), 0);
        CHECK.due("37: years(0, 1, 2)", x.years(0, 1, 2), 1);
        CHECK.due("37: years(0, 6, 2)", x.years(0, 6, 2), 3);
        CHECK.due("37: years(0, 10, 2)", x.years(0, 10, 2), 4);
        CHECK.due("37: years(999999998, 1, 0)", x.years(999999998, 1, 0), 1);
        CHECK.refused("37: years(999999999, 1, 0)", x, x.years(999999999, 1, 0), 1);
        CHECK.refused("37: years(999999970, 30, 0)", x, x.years(999999970, 30, 0), 1);
        CHECK.due("37: years(999999969, 30, 0)", x.years(999999969, 30, 0), 30);
        CHECK.refused("37: years(0, 0, 0)", x, x.years(0, 0, 0), 1);
        CHECK.refused("37: years(0, 31, 0)", x, x.years(0, 31, 0), 1);
        CHECK.refused("37: years(-1, 1, 0)", x, x.years(-1, 1, 0), 1);
        CHECK.refused("37: years(0, 1, 3)", x, x.years(0, 1, 3), 1);
        CHECK.refused("37: years(0, 1, -1)", x, x.years(0, 1, -1), 1);

        CHECK.due("38: often(0, 6, 0)", x.often(0, 6, 0), 3);
        CHECK.due("38: often(0, 3, 1)", x.often(0, 3, 1), 0);
        CHECK.refused("38: often(0, 31, 9)", x, x.often(0, 31, 9), 1);
        CHECK.refused("38: often(0, 1, 2)", x, x.often(0, 1, 2), 2);
        CHECK.due("39: soonest(0, 6, 0)", x.soonest(0, 6, 0), 1);
        CHECK.due("39: soonest(0, 6, 1)", x.soonest(0, 6, 1), 4);
        CHECK.refused("39: soonest(0, 3, 1)", x, x.soonest(0, 3, 1), 5);
        CHECK.refused("39: soonest(0, 0, 9)", x, x.soonest(0, 0, 9), 1);
        CHECK.refused("39: soonest(0, 1, 2)", x, x.soonest(0, 1, 2), 2);
        CHECK.due("37: hunter(1, 0) as ever", x.hunter(1, 0), 0);
        CHECK.due("37: many(7) as ever", x.many(7), 0);

        // Who had none has a point more, and so the tag by points a year later.
        x.prefer(100);
        CHECK.due("37: years(0, 6, 2) by points", x.years(0, 6, 2), 1);
        CHECK.due("38: often(0, 6, 1) by points", x.often(0, 6, 1), 3);
        CHECK.due("39: soonest(0, 6, 1) by points", x.soonest(0, 6, 1), 2);

        TagDraw y = Check.of(PAIR);
        CHECK.due("38: often(0, 3, 1) with a second CHOICE", y.often(0, 3, 1), 3);
        CHECK.refused("39: soonest(0, 3, 1) with a second CHOICE", y, y.soonest(0, 3, 1), 5);
        CHECK.due("39: soonest(0, 4, 1)", y.soonest(0, 4, 1), 4);
        TagDraw served = Check.of("unit u 1;hunter a 0;asks a u;");
        CHECK.due("37: years(0, 3, 2) with one each year", served.years(0, 3, 2), 0);
        CHECK.due("37: years(0, 3, 1) with one each year", served.years(0, 3, 1), 0);
        TagDraw idle = Check.of("hunter a 0;");
        CHECK.due("37: years(0, 7, 2) without CHOICES", idle.years(0, 7, 2), 7);
        CHECK.due("37: years(0, 7, 1) without CHOICES", idle.years(0, 7, 1), 1);
    }

    private static void draws() {
        TagDraw x = Check.of(PLAIN);
        CHECK.refused("40: draw(-1)", x, x.draw(-1), 1);
        CHECK.refused("40: draw(1000000000)", x, x.draw(1000000000), 1);
        CHECK.due("40: draw(1)", x.draw(1), 2);
        int[][] hunters = {{0, 0}, {4, NONE}, {0, 0}};
        for (int h = 0; h < 3; h++) {
            CHECK.due("40: hunter(" + h + ", 0)", x.hunter(h, 0), hunters[h][0]);
            CHECK.due("7: hunter(" + h + ", 4)", x.hunter(h, 4), hunters[h][1]);
            CHECK.due("7: status()", x.status(), 0);
        }
        CHECK.due("6: many(7)", x.many(7), 1);
        // By 5, b and c have it: they have 0 POINTS, a has 1.
        CHECK.due("40: draw(5)", x.draw(5), 2);
        CHECK.due("7: hunter(0, 4)", x.hunter(0, 4), NONE);
        CHECK.due("7: hunter(1, 4)", x.hunter(1, 4), 0);
        CHECK.due("40: hunter(0, 0)", x.hunter(0, 0), 1);
        CHECK.due("40: hunter(1, 0)", x.hunter(1, 0), 0);
        CHECK.due("6: many(7)", x.many(7), 2);
        CHECK.due("48: undo()", x.undo(), 1);
        CHECK.due("7: hunter(0, 4) as it was", x.hunter(0, 4), 0);
        CHECK.due("6: many(7) as it was", x.many(7), 1);
        x.law(1);
        CHECK.due("7: hunter(0, 4) by the latest draw", x.hunter(0, 4), 0);
        Check.load(x, PLAIN);
        CHECK.due("6: many(7) behind load()", x.many(7), 0);
        CHECK.due("6: many(8) behind load()", x.many(8), 0);
        CHECK.due("7: hunter(0, 4) behind load()", x.hunter(0, 4), NONE);
        CHECK.refused("48: undo() behind load()", x, x.undo(), 5);
    }

    private static void acts() {
        TagDraw x = Check.of(PLAIN);
        CHECK.due("24: chance(0, 0)", x.chance(0, 0), 666666666664L);
        CHECK.due("41: points(1, 20)", x.points(1, 20), 3);
        CHECK.due("41: hunter(1, 0)", x.hunter(1, 0), 20);
        CHECK.due("41: share(1, 0), plain", x.share(1, 0), 1);
        CHECK.refused("41: points(1, 20)", x, x.points(1, 20), 4);
        CHECK.refused("41: points(3, 21)", x, x.points(3, 21), 1);
        CHECK.refused("41: points(0, -1)", x, x.points(0, -1), 1);
        CHECK.refused("41: points(3, 0)", x, x.points(3, 0), 2);
        CHECK.due("41: points(1, 0)", x.points(1, 0), 20);

        CHECK.due("42: quota(0, 20)", x.quota(0, 20), 2);
        CHECK.due("42: unit(0, 0)", x.unit(0, 0), 20);
        CHECK.due("42: many(9)", x.many(9), 20);
        CHECK.refused("42: quota(0, 20)", x, x.quota(0, 20), 4);
        CHECK.refused("42: quota(1, 21)", x, x.quota(1, 21), 1);
        CHECK.refused("42: quota(0, -1)", x, x.quota(0, -1), 1);
        CHECK.refused("42: quota(1, 0)", x, x.quota(1, 0), 2);
        CHECK.due("42: chance(0, 0) then", x.chance(0, 0), 999999999996L);
        CHECK.due("42: quota(0, 0)", x.quota(0, 0), 20);
        CHECK.due("42: chance(0, 0) of none", x.chance(0, 0), 0);

        CHECK.due("44: law(2)", x.law(2), 0);
        CHECK.due("44: law(1)", x.law(1), 2);
        CHECK.due("44: many(4)", x.many(4), 1);
        CHECK.refused("44: law(1)", x, x.law(1), 4);
        CHECK.refused("44: law(3)", x, x.law(3), 1);
        CHECK.refused("44: law(-1)", x, x.law(-1), 1);

        CHECK.due("45: prefer(100)", x.prefer(100), 0);
        CHECK.due("45: many(5)", x.many(5), 100);
        CHECK.refused("45: prefer(100)", x, x.prefer(100), 4);
        CHECK.refused("45: prefer(101)", x, x.prefer(101), 1);
        CHECK.refused("45: prefer(-1)", x, x.prefer(-1), 1);

        CHECK.due("45: prefer(0)", x.prefer(0), 100);

        CHECK.due("46: guests(0)", x.guests(0), 100);
        CHECK.due("46: many(6)", x.many(6), 0);
        CHECK.refused("46: guests(0)", x, x.guests(0), 4);
        CHECK.refused("46: guests(101)", x, x.guests(101), 1);
        CHECK.refused("46: guests(-1)", x, x.guests(-1), 1);
        CHECK.due("46: guests(100)", x.guests(100), 0);
        x.quota(0, 7);
        x.guests(29);
        CHECK.due("46: unit(0, 2) of 7 by 29 in a hundred", x.unit(0, 2), 2);
        x.prefer(28);
        CHECK.due("45: unit(0, 1) of 7 by 28 in a hundred", x.unit(0, 1), 1);
    }

    private static void choices() {
        TagDraw x = Check.of(MIXED);
        CHECK.refused("43: choose(0, NONE, 1, NONE)", x, x.choose(0, NONE, 1, NONE), 1);
        CHECK.refused("43: choose(0, 0, NONE, 1)", x, x.choose(0, 0, NONE, 1), 1);
        CHECK.refused("43: choose(0, NONE, NONE, 1)", x, x.choose(0, NONE, NONE, 1), 1);
        CHECK.refused("43: choose(0, 1, 1, NONE)", x, x.choose(0, 1, 1, NONE), 1);
        CHECK.refused("43: choose(0, 0, 1, 0)", x, x.choose(0, 0, 1, 0), 1);
        CHECK.refused("43: choose(9, 0, 1, 1)", x, x.choose(9, 0, 1, 1), 1);
        CHECK.refused("43: choose(3, 0, NONE, NONE)", x, x.choose(3, 0, NONE, NONE), 2);
        CHECK.refused("43: choose(0, 3, NONE, NONE)", x, x.choose(0, 3, NONE, NONE), 2);
        CHECK.refused("43: choose(0, 0, 3, NONE)", x, x.choose(0, 0, 3, NONE), 2);
        CHECK.refused("43: choose(0, 0, 1, 3)", x, x.choose(0, 0, 1, 3), 2);
        CHECK.refused("43: choose(0, -2, NONE, NONE)", x, x.choose(0, -2, NONE, NONE), 2);
        CHECK.refused("43: choose(0, 1, 0, NONE)", x, x.choose(0, 1, 0, NONE), 4);
        CHECK.refused("43: choose(1, NONE, NONE, NONE)", x, x.choose(1, NONE, NONE, NONE), 4);
        CHECK.due("43: many(8)", x.many(8), 0);
        CHECK.due("43: choose(1, 2, 1, 0)", x.choose(1, 2, 1, 0), 0);
        CHECK.due("43: choice(1, 0)", x.choice(1, 0), 2);
        CHECK.due("43: choice(1, 1)", x.choice(1, 1), 1);
        CHECK.due("43: choice(1, 2)", x.choice(1, 2), 0);
        CHECK.due("43: choose(1, 2, 1, NONE)", x.choose(1, 2, 1, NONE), 3);
        CHECK.refused("43: choice(1, 2)", x, x.choice(1, 2), 5);
        CHECK.due("43: choose(0, NONE, NONE, NONE)", x.choose(0, NONE, NONE, NONE), 2);
        CHECK.due("43: applicant(0, 4)", x.applicant(0, 4), 0);
        CHECK.due("43: unit(0, 5)", x.unit(0, 5), 1);
        // CHOICES of a party are those of all its hunters.
        CHECK.due("43: choose(2, 1, NONE, NONE)", x.choose(2, 1, NONE, NONE), 2);
        x.split(0);
        CHECK.due("43: choice(0, 0) behind split()", x.choice(0, 0), 1);
        CHECK.due("43: choice(1, 0) behind split()", x.choice(1, 0), 1);
    }

    private static void splits() {
        TagDraw x = Check.of("unit u 2;unit v 1;hunter a 1;hunter b 2;hunter c 3;hunter d 4;hunter e 5;"
            + "party p d b;party q c a;asks p u v;asks q v;");
        CHECK.due("9: applicant(1, 5)", x.applicant(1, 5), 10);
        CHECK.due("9: applicant(1, 2)", x.applicant(1, 2), 3);
        CHECK.refused("47: split(2)", x, x.split(2), 2);
        CHECK.due("47: split(0)", x.split(0), 4);
        CHECK.due("47: many(2)", x.many(2), 1);
        int[][] hunters = {{0, 3}, {NONE, 0}, {0, 3}, {NONE, 1}, {NONE, 2}};
        for (int h = 0; h < 5; h++) {
            CHECK.due("47: hunter(" + h + ", 2)", x.hunter(h, 2), hunters[h][0]);
            CHECK.due("47: hunter(" + h + ", 3)", x.hunter(h, 3), hunters[h][1]);
        }
        CHECK.due("47: choice(0, 0)", x.choice(0, 0), 0);
        CHECK.due("47: choice(1, 1)", x.choice(1, 1), 1);
        CHECK.due("47: choice(3, 0)", x.choice(3, 0), 1);
        CHECK.due("47: applicant(3, 6)", x.applicant(3, 6), 0);
        CHECK.refused("47: split(1)", x, x.split(1), 2);
        CHECK.due("47: split(0)", x.split(0), 5);
        CHECK.due("48: undo()", x.undo(), 1);
        CHECK.due("48: undo()", x.undo(), 0);
        CHECK.due("48: many(2)", x.many(2), 2);
        CHECK.due("48: hunter(0, 2)", x.hunter(0, 2), 1);
    }

    private static void undone() {
        TagDraw x = Check.of(MIXED);
        CHECK.refused("48: undo()", x, x.undo(), 5);
        x.points(0, 9);
        x.quota(0, 9);
        x.choose(1, 0, NONE, NONE);
        x.law(2);
        x.prefer(9);
        x.guests(9);
        x.draw(0);
        x.split(0);
        CHECK.due("6: many(8)", x.many(8), 8);
        // What is refused is no act; nor is print().
        x.law(2);
        x.print(0);
        CHECK.due("6: many(8)", x.many(8), 8);
        CHECK.due("48: undo() split", x.undo(), 7);
        CHECK.due("48: many(2)", x.many(2), 1);
        CHECK.due("48: undo() draw", x.undo(), 6);
        CHECK.due("48: many(7)", x.many(7), 0);
        CHECK.due("48: hunter(0, 0)", x.hunter(0, 0), 9);
        CHECK.due("48: undo() guests", x.undo(), 5);
        CHECK.due("48: many(6)", x.many(6), 50);
        CHECK.due("48: undo() prefer", x.undo(), 4);
        CHECK.due("48: many(5)", x.many(5), 50);
        CHECK.due("48: undo() law", x.undo(), 3);
        CHECK.due("48: many(4)", x.many(4), 1);
        CHECK.due("48: undo() choose", x.undo(), 2);
        CHECK.due("48: applicant(1, 4)", x.applicant(1, 4), 0);
        CHECK.due("48: undo() quota", x.undo(), 1);
        CHECK.due("48: many(9)", x.many(9), 3);
        CHECK.due("48: undo() points", x.undo(), 0);
        CHECK.due("48: hunter(0, 0)", x.hunter(0, 0), 4);
        CHECK.refused("48: undo()", x, x.undo(), 5);

        for (int p = 1; p <= 11; p++) {
            x.points(2, p);
        }
        CHECK.due("6: many(8) of eleven", x.many(8), 8);
        for (int left = 7; left >= 0; left--) {
            CHECK.due("48: undo()", x.undo(), left);
        }
        CHECK.refused("48: undo()", x, x.undo(), 5);
        CHECK.due("48: hunter(2, 0)", x.hunter(2, 0), 3);
        x.points(2, 4);
        CHECK.due("48: undo() of a new one", x.undo(), 0);
        CHECK.due("48: hunter(2, 0)", x.hunter(2, 0), 3);
    }

    private static void printed() {
        TagDraw x = Check.of(RANKED);
        CHECK.refused("50: out(0) ahead of any", x, x.out(0), 5);
        CHECK.refused("50: out(-1)", x, x.out(-1), 1);
        CHECK.refused("49: print(-1)", x, x.print(-1), 1);
        CHECK.refused("49: print(1000000000)", x, x.print(1000000000), 1);
        CHECK.refused("50: out(0) behind a refused one", x, x.out(0), 5);
        out(x, 0, "0=0;1=0!;2=-;3=-;");
        out(x, 1, "2=0!;1=0;3=-;0=-;");
        CHECK.refused("49: print(-1)", x, x.print(-1), 1);
        x.quota(0, 0);
        CHECK.due("50: out(0) stays", x.out(0), '2');
        out(x, 1, "2=-;1=-;3=-;0=-;");
        TagDraw y = Check.of(PAIR);
        out(y, 0, "0=0;1=1;");
        out(y, 3, "1=0;0=-;");
    }

    private static void out(TagDraw x, int seed, String text) {
        CHECK.due("49: print(" + seed + ")", x.print(seed), text.length());
        for (int i = 0; i < text.length(); i++) {
            CHECK.due("50: out(" + i + ") of " + text, x.out(i), text.charAt(i));
        }
        CHECK.refused("50: out(" + text.length() + ")", x, x.out(text.length()), 5);
    }
}
