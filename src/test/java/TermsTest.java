import java.math.BigInteger;
import java.util.ArrayList;
import java.util.List;

/** The edges of section 2, sentence by sentence; the sentences stand ahead of their tests. */
public final class TermsTest {
    private static final Check CHECK = new Check();
    private static final int NONE = TagDraw.NONE;
    private static final int LAST_SEED = 999_999_999;
    private static final int[] SEEDS = {0, 1, 2, 3, 12_345, 65_535, 65_536, 2_147_483, 536_870_912, LAST_SEED};

    public static void main(String[] args) {
        applicants();
        pointsOfAParty();
        tickets();
        sharesOfAQuota();
        sizeOfWhatIsPreferred();
        guestsOfWhatIsForGuests();
        withoutChoices();
        firstRoundByPoints();
        firstRoundOfUnits();
        passedOver();
        secondRound();
        partiesWhole();
        orders();
        ordersOfTheMost();
        parts();
        cutParts();
        chancesOfSeven();
        nobody();
        behind();
        behindInParties();
        years();
        kinds();
        eightAreKept();
        loadForgets();
        CHECK.end("TermsTest");
    }

    /** By some SEEDS an APPLICANT has that UNIT in that round; by any where round is 0, it has none. */
    private static void ends(String what, TagDraw x, int a, int unit, int round) {
        for (int seed : SEEDS) {
            if (round == 0) {
                CHECK.refused(what + ": drawn(" + seed + ", " + a + ")", x, x.drawn(seed, a), 5);
                CHECK.refused(what + ": round(" + seed + ", " + a + ")", x, x.round(seed, a), 5);
            } else {
                CHECK.due(what + ": drawn(" + seed + ", " + a + ")", x.drawn(seed, a), unit);
                CHECK.due(what + ": round(" + seed + ", " + a + ")", x.round(seed, a), round);
            }
        }
    }

    // ---- "APPLICANTS: HUNTERS that are in no PARTY, by number, behind them PARTIES, by number"

    private static void applicants() {
        applicants("hunter a 1;", 1);
        applicants("hunter a 1;hunter b 1;party p b a;", 3);
        applicants("hunter a 1;hunter b 1;hunter c 1;hunter d 1;party p d b;party q c a;", 10, 5);
        applicants("hunter a 1;hunter b 1;hunter c 1;hunter d 1;party p d b;", 1, 4, 10);
        applicants(Check.hunters(10), 1, 2, 4, 8, 16, 32, 64, 128, 256, 512);
        applicants(Check.hunters(10) + "party p hj hi hh hg;party q ha hb;party r hc hd;party s he hf;",
            960, 3, 12, 48);
        applicants(Check.hunters(10) + "party p hj ha;", 2, 4, 8, 16, 32, 64, 128, 256, 513);
        TagDraw none = Check.of("unit u 1;");
        CHECK.due("6: many(3) of none", none.many(3), 0);
    }

    private static void applicants(String list, int... bits) {
        TagDraw x = Check.of(list);
        CHECK.due("6: many(3) of " + list, x.many(3), bits.length);
        for (int a = 0; a < bits.length; a++) {
            CHECK.due("9: applicant(" + a + ", 5) of " + list, x.applicant(a, 5), bits[a]);
            CHECK.due("9: applicant(" + a + ", 0) of " + list, x.applicant(a, 0), Integer.bitCount(bits[a]));
            for (int h = 0; h < 10; h++) {
                if ((bits[a] >> h & 1) == 1) {
                    CHECK.due("7: hunter(" + h + ", 3) of " + list, x.hunter(h, 3), a);
                }
            }
        }
    }

    // ---- "POINTS of a PARTY: those of its HUNTERS added, by their number, cut"

    private static void pointsOfAParty() {
        int[][] rows = {{0, 0, 0}, {0, 1, 0}, {1, 1, 1}, {1, 2, 1}, {20, 19, 19}, {20, 20, 20}, {0, 0, 2, 0},
            {1, 1, 1, 1}, {20, 20, 19, 19}, {1, 1, 1, 0, 0}, {1, 1, 1, 1, 1}, {20, 20, 20, 19, 19}, {20, 20, 20, 20, 20},
            {0, 0, 0, 3, 0}, {0, 0, 0, 4, 1}};
        for (int[] row : rows) {
            int size = row.length - 1;
            StringBuilder list = new StringBuilder();
            StringBuilder party = new StringBuilder("party p");
            for (int h = 0; h < size; h++) {
                list.append("hunter h").append((char) ('a' + h)).append(' ').append(row[h]).append(';');
                party.append(" h").append((char) ('a' + h));
            }
            TagDraw x = Check.of(list.append(party).append(';').toString());
            CHECK.due("9: POINTS of " + list, x.applicant(0, 2), row[size]);
        }
    }

    // ---- "TICKETS by LAW: plain 1; line 1 and POINTS; square 1 and POINTS times POINTS"

    private static void tickets() {
        int[][] rows = {{0, 1, 1, 1}, {1, 1, 2, 2}, {2, 1, 3, 5}, {19, 1, 20, 362}, {20, 1, 21, 401}};
        for (int[] row : rows) {
            TagDraw x = Check.of("hunter a " + row[0] + ";hunter b 0;hunter c 0;hunter d 0;party p c d;");
            for (int law = 0; law < 3; law++) {
                x.law(law);
                CHECK.due("9: TICKETS of " + row[0] + " by law " + law, x.applicant(0, 3), row[law + 1]);
                int all = row[law + 1] + 2;
                CHECK.due("12: share(0, 0) by share(0, 1)", x.share(0, 0) * all, x.share(0, 1) * row[law + 1]);
            }
        }
        TagDraw party = Check.of("hunter a 20;hunter b 1;party p a b;law square;");
        CHECK.due("9: TICKETS of a PARTY", party.applicant(0, 3), 101);
        TagDraw most = Check.of(Check.hunters(10).replace(" 0;", " 20;") + "law square;");
        CHECK.due("9: TICKETS of the tenth", most.applicant(9, 3), 401);
        CHECK.due("12: share(9, 1) of 4010", most.share(9, 1), 10);
    }

    // ---- "PREFERRED: QUOTA times prefer, by 100, cut; for GUESTS: QUOTA times guests, by 100, cut"

    private static void sharesOfAQuota() {
        int[][] rows = {{0, 100, 0}, {0, 0, 0}, {1, 99, 0}, {1, 100, 1}, {1, 0, 0}, {20, 0, 0}, {20, 4, 0}, {20, 5, 1},
            {20, 9, 1}, {20, 10, 2}, {20, 99, 19}, {20, 100, 20}, {3, 33, 0}, {3, 34, 1}, {3, 66, 1}, {3, 67, 2},
            {7, 14, 0}, {7, 15, 1}, {19, 100, 19}, {2, 49, 0}, {2, 50, 1}};
        for (int[] row : rows) {
            TagDraw x = Check.of("unit u " + row[0] + ";hunter a 0;prefer " + row[1] + ";guests " + row[1] + ";");
            CHECK.due("8: PREFERRED of " + row[0] + " by " + row[1], x.unit(0, 1), row[2]);
            CHECK.due("8: for GUESTS of " + row[0] + " by " + row[1], x.unit(0, 2), row[2]);
            CHECK.due("16: left for GUESTS", x.left(0, 0, 1), row[2]);
        }
    }

    // ---- "FITS: .. its SIZE is no more than is left of PREFERRED"; in the second round: than is left of the TAGS

    private static void sizeOfWhatIsPreferred() {
        for (int size = 2; size <= 4; size++) {
            String party = Check.hunters(4).replace(" 0;", " 5;") + "party p ha hb hc hd".substring(0, 7 + 3 * size)
                + ";asks p u;";
            ends("2: a PARTY of what is PREFERRED", Check.of("unit u 20;prefer " + 5 * size + ";" + party), 4 - size, 0, 1);
            ends("2: a PARTY of one more", Check.of("unit u 20;prefer " + 5 * (size - 1) + ";" + party), 4 - size, 0, 2);
            ends("2: a PARTY of the TAGS", Check.of("unit u " + size + ";" + party), 4 - size, 0, 2);
            ends("2: a PARTY of one more than the TAGS", Check.of("unit u " + (size - 1) + ";" + party), 4 - size, 0, 0);
        }
        String one = "hunter a 0;asks a u;";
        ends("2: one of one PREFERRED", Check.of("unit u 1;prefer 100;" + one), 0, 0, 1);
        ends("2: one of none PREFERRED", Check.of("unit u 1;prefer 99;" + one), 0, 0, 2);
        ends("2: one of no TAGS", Check.of("unit u 0;prefer 100;" + one), 0, 0, 0);
        // What one has in the first round is left no more in it.
        String rest = "hunter a 9;hunter b 8;hunter c 1;party p a b;asks p u;asks c u;";
        ends("2: one of what is left of PREFERRED", Check.of("unit u 3;prefer 100;" + rest), 0, 0, 1);
        ends("2: one of nothing left of PREFERRED", Check.of("unit u 4;prefer 50;" + rest), 0, 0, 2);
        ends("2: one of nothing left at all", Check.of("unit u 2;prefer 100;" + rest), 0, 0, 0);
    }

    // ---- "its GUESTS no more than are left for GUESTS"

    private static void guestsOfWhatIsForGuests() {
        String one = "hunter a 0 guest;asks a u;";
        ends("2: a GUEST of one for GUESTS", Check.of("unit u 20;guests 5;" + one), 0, 0, 2);
        ends("2: a GUEST of none for GUESTS", Check.of("unit u 20;guests 4;" + one), 0, 0, 0);
        ends("2: a GUEST of one, by points", Check.of("unit u 20;guests 5;prefer 100;" + one), 0, 0, 1);
        ends("2: a GUEST of none, by points", Check.of("unit u 20;guests 4;prefer 100;" + one), 0, 0, 0);
        ends("2: no GUEST of none for GUESTS", Check.of("unit u 1;guests 0;hunter a 0;asks a u;"), 0, 0, 2);
        String two = "hunter a 0 guest;hunter b 0 guest;hunter c 0;party p a b c;asks p u;";
        ends("2: two GUESTS of two", Check.of("unit u 4;guests 50;" + two), 0, 0, 2);
        ends("2: two GUESTS of one", Check.of("unit u 4;guests 49;" + two), 0, 0, 0);
        ends("2: two GUESTS of two, by points", Check.of("unit u 4;guests 50;prefer 75;" + two), 0, 0, 1);
        ends("2: two GUESTS of one, by points", Check.of("unit u 4;guests 49;prefer 75;" + two), 0, 0, 0);
        // What the first round takes for GUESTS is not left in it, nor in the second one.
        String three = "hunter a 9 guest;hunter b 8 guest;hunter c 7 guest;asks a u;asks b u;asks c u;";
        TagDraw x = Check.of("unit u 4;guests 50;prefer 25;" + three);
        ends("2: the first GUEST", x, 0, 0, 1);
        CHECK.due("16: left for GUESTS by two of three", x.left(0, 0, 1), 0);
        CHECK.due("16: TAGS left by two of three", x.left(0, 0, 0), 2);
        TagDraw y = Check.of("unit u 4;guests 25;prefer 50;" + three);
        ends("2: the one GUEST", y, 0, 0, 1);
        ends("2: the next GUEST", y, 1, 0, 0);
        ends("2: the last GUEST", y, 2, 0, 0);
        // "(by that share alone, however many TAGS are left)"
        TagDraw z = Check.of("unit u 2;guests 50;hunter a 0;hunter b 0;asks a u;asks b u;");
        CHECK.due("16: TAGS left of two", z.left(0, 0, 0), 0);
        CHECK.due("16: left for GUESTS, by that share alone", z.left(0, 0, 1), 1);
    }

    // ---- "FITS: it has CHOICES"

    private static void withoutChoices() {
        for (int prefer = 0; prefer <= 100; prefer += 100) {
            TagDraw x = Check.of("unit u 20;hunter a 20;hunter b 20;hunter c 20;party p b c;prefer " + prefer + ";");
            ends("2: a HUNTER without CHOICES", x, 0, 0, 0);
            ends("2: a PARTY without CHOICES", x, 1, 0, 0);
            CHECK.due("17: winners(0) without CHOICES", x.winners(0), 0);
        }
        ends("2: no UNITS", Check.of("hunter a 20;prefer 100;"), 0, 0, 0);
    }

    // ---- "those with more POINTS ahead, with as many those ahead in the ORDER"

    private static void firstRoundByPoints() {
        TagDraw alike = Check.of("unit u 1;hunter a 7;hunter b 7;hunter c 7;asks a u;asks b u;asks c u;prefer 100;");
        TagDraw more = Check.of("unit u 1;hunter a 7;hunter b 8;hunter c 7;asks a u;asks b u;asks c u;prefer 100;");
        TagDraw two = Check.of("unit u 1;hunter a 6;hunter b 8;hunter c 8;asks a u;asks b u;asks c u;prefer 100;");
        for (int seed = 0; seed < 30; seed++) {
            int first = alike.order(seed, 0);
            CHECK.due("2: with as many POINTS", alike.drawn(seed, first), 0);
            CHECK.due("17: winners(" + seed + ") with as many POINTS", alike.winners(seed), 1 << first);
            CHECK.due("17: winners(" + seed + ") with one more", more.winners(seed), 2);
            int ahead = two.order(seed, 0) == 0 ? two.order(seed, 1) : two.order(seed, 0);
            CHECK.due("17: winners(" + seed + ") with two alike", two.winners(seed), 1 << ahead);
        }
        // POINTS of a PARTY are cut: 7 of 15 by 2 are as many as 7, and less than 8.
        String list = "unit u 2;hunter a 8;hunter b 7;hunter c 0;hunter d 0;party p a b;asks p u;prefer 100;";
        TagDraw cut = Check.of(list.replace("hunter c 0", "hunter c 7") + "asks c u;");
        TagDraw less = Check.of(list.replace("hunter c 0", "hunter c 8") + "asks c u;");
        for (int seed = 0; seed < 30; seed++) {
            int ahead = cut.order(seed, 0) == 1 ? cut.order(seed, 1) : cut.order(seed, 0);
            CHECK.due("17: winners(" + seed + ") with cut POINTS", cut.winners(seed), ahead == 0 ? 4 : 3);
            CHECK.due("17: winners(" + seed + ") of 8 and 7.5", less.winners(seed), 4);
        }
    }

    // ---- "First round, UNIT by UNIT: the APPLICANTS whose first CHOICE it is"

    private static void firstRoundOfUnits() {
        TagDraw x = Check.of("unit u 1;unit v 1;hunter a 3;hunter b 2;hunter c 9;asks a u;asks b v;asks c v u;prefer 100;");
        ends("2: by points, the first UNIT", x, 0, 0, 1);
        ends("2: by points, the second UNIT", x, 2, 1, 1);
        ends("2: by points, none", x, 1, 1, 0);
        // A second CHOICE is nothing in the first round, whatever POINTS one has.
        TagDraw y = Check.of("unit u 1;unit v 0;hunter a 0;hunter b 20;asks a u;asks b v u;prefer 100;");
        ends("2: by points, a first CHOICE", y, 0, 0, 1);
        ends("2: by points, a second CHOICE", y, 1, 0, 0);
    }

    // ---- "one that does not FIT is passed over"

    private static void passedOver() {
        TagDraw x = Check.of("unit u 2;hunter a 9;hunter b 9;hunter c 1;hunter d 0;party p a b;asks p u;asks c u;asks d u;"
            + "prefer 50;");
        ends("2: passed over, the next one by points", x, 0, 0, 1);
        ends("2: passed over, and too little left", x, 2, 0, 0);
        TagDraw y = Check.of("unit u 1;hunter a 9 guest;hunter b 0;asks a u;asks b u;prefer 100;guests 99;");
        ends("2: a GUEST passed over", y, 0, 0, 0);
        ends("2: behind a GUEST", y, 1, 0, 1);
        // In the second round, too.
        TagDraw z = Check.of("unit u 1;hunter a 9;hunter b 9;hunter c 0;party p a b;asks p u;asks c u;");
        ends("2: by lot, a PARTY passed over", z, 1, 0, 0);
        ends("2: by lot, behind a PARTY", z, 0, 0, 2);
    }

    // ---- "each APPLICANT that has none has the first of its CHOICES into which it FITS, all TAGS .. being free now"

    private static void secondRound() {
        String units = "unit u 0;unit v 0;unit w 1;hunter a 0;asks a u v w;prefer 100;";
        ends("2: the third CHOICE", Check.of(units), 0, 2, 2);
        ends("2: the second CHOICE", Check.of(units.replace("v 0", "v 1")), 0, 1, 2);
        ends("2: the first CHOICE", Check.of(units.replace("u 0", "u 1")), 0, 0, 1);
        ends("2: no CHOICE", Check.of(units.replace("w 1", "w 0")), 0, 0, 0);
        // What nobody has by points is free: for one whose first CHOICE it is not, for one that was passed over.
        TagDraw free = Check.of("unit u 0;unit v 2;hunter a 0;hunter b 0;party p a b;asks p u v;prefer 100;");
        ends("2: PREFERRED that is free", free, 0, 1, 2);
        TagDraw over = Check.of("unit u 2;hunter a 0;hunter b 0;party p a b;asks p u;prefer 50;");
        ends("2: PREFERRED and the rest together", over, 0, 0, 2);
        // One that has a UNIT by points has no other one by lot.
        TagDraw once = Check.of("unit u 2;unit v 2;hunter a 1;asks a u v;prefer 50;");
        CHECK.due("16: TAGS left behind one", once.left(0, 0, 0), 1);
        CHECK.due("16: TAGS left of the other", once.left(0, 1, 0), 2);
        // In the ORDER, whatever POINTS one has.
        TagDraw lot = Check.of("unit u 1;hunter a 0;hunter b 20;asks a u;asks b u;");
        for (int seed = 0; seed < 30; seed++) {
            CHECK.due("17: winners(" + seed + ") by lot", lot.winners(seed), 1 << lot.order(seed, 0));
        }
    }

    // ---- "All HUNTERS of a PARTY have it then: as many TAGS as its SIZE"

    private static void partiesWhole() {
        TagDraw x = Check.of("unit u 5;hunter a 0;hunter b 0;hunter c 0;hunter d 0;party p d b c a;asks p u;prefer 100;");
        CHECK.due("17: winners(0) of four", x.winners(0), 15);
        CHECK.due("16: TAGS left behind four", x.left(0, 0, 0), 1);
        CHECK.due("16: APPLICANTS behind four", x.left(0, 0, 2), 1);
        CHECK.due("40: draw(0) of four", x.draw(0), 4);
        for (int h = 0; h < 4; h++) {
            CHECK.due("7: hunter(" + h + ", 4) of four", x.hunter(h, 4), 0);
        }
        x.quota(0, 3);
        CHECK.due("17: winners(0) of three TAGS", x.winners(0), 0);
    }

    // ---- "ORDER of a SEED": x goes around at 2,147,483,648

    /** The ORDER worked out with numbers that never go around by themselves. */
    private static List<Integer> order(TagDraw x, int seed) {
        int count = x.many(3);
        int[] tickets = new int[count];
        int all = 0;
        for (int a = 0; a < count; a++) {
            tickets[a] = x.applicant(a, 3);
            all += tickets[a];
        }
        BigInteger at = BigInteger.valueOf(seed);
        List<Integer> row = new ArrayList<>();
        while (row.size() < count) {
            at = at.multiply(BigInteger.valueOf(1_103_515_245)).add(BigInteger.valueOf(12_345));
            at = at.mod(BigInteger.valueOf(2_147_483_648L));
            int draw = at.shiftRight(16).mod(BigInteger.valueOf(all)).intValue();
            int added = 0;
            for (int a = 0; a < count; a++) {
                added += row.contains(a) ? 0 : tickets[a];
                if (added > draw) {
                    row.add(a);
                    all -= tickets[a];
                    break;
                }
            }
        }
        return row;
    }

    private static void orders(TagDraw x, int seed) {
        List<Integer> row = order(x, seed);
        for (int k = 0; k < row.size(); k++) {
            CHECK.due("13: order(" + seed + ", " + k + ") of " + row.size(), x.order(seed, k), row.get(k));
        }
    }

    private static void orders() {
        String list = "hunter a 0;hunter b 20;hunter c 7;hunter d 1;hunter e 5;party p e b;law ";
        for (String law : new String[] {"plain;", "line;", "square;"}) {
            TagDraw x = Check.of(list + law);
            for (int seed : SEEDS) {
                orders(x, seed);
            }
            orders(Check.of("hunter a 3;law " + law), LAST_SEED);
        }
        // x becomes 12,345; 1,103,527,590; 59,559,187; 1,163,074,432, the last two around;
        // these by 65,536 are 0; 16,838; 908; 17,747.
        TagDraw four = Check.of("hunter a 0;hunter b 0;hunter c 0;hunter d 0;");
        int[] first = {0, 2, 0, 3};
        for (int seed = 0; seed < 4; seed++) {
            CHECK.due("13: order(" + seed + ", 0) of four", four.order(seed, 0), first[seed]);
        }
    }

    private static void ordersOfTheMost() {
        TagDraw x = Check.of(Check.hunters(10).replace(" 0;", " 20;") + "law square;");
        for (int seed : SEEDS) {
            orders(x, seed);
        }
        TagDraw y = Check.of(Check.hunters(9) + "hunter z 20;law square;");
        for (int seed = 0; seed < 20; seed++) {
            orders(y, seed);
        }
    }

    // ---- "PARTS: .. has these PARTS times its TICKETS, by the TICKETS of all that are not yet, cut"

    private static void parts() {
        // 5 and 1 TICKETS: times ahead of by, so it is not 5 times 166,666,666,666.
        TagDraw x = Check.of("unit u 1;hunter a 4;hunter b 0;asks a u;asks b u;law line;");
        CHECK.due("24: chance(0, 0) of 5 in 6", x.chance(0, 0), 833_333_333_333L);
        CHECK.due("24: chance(1, 0) of 1 in 6", x.chance(1, 0), 166_666_666_666L);
        // The second one is of what is left: 1/3 of 2/5, and 2/4 of 1/5, cut; 1, 2 and 2 TICKETS.
        TagDraw y = Check.of("unit u 2;hunter a 0;hunter b 1;hunter c 1;asks a u;asks b u;asks c u;law line;");
        long second = 2 * (400_000_000_000L / 3);
        CHECK.due("24: chance(0, 0) of the first two", y.chance(0, 0), 200_000_000_000L + second);
        // 266,666,666,666 of 2/5 times 2/3, cut, for b and c, and one of both is third.
        CHECK.due("26: both(1, 2) ahead of the other", y.both(1, 2), 2 * 266_666_666_666L);
    }

    /** So many PARTS have the ORDERS of 0 to 7 alike together: each one's is cut on its way. */
    private static void cutParts() {
        long[] all = {0, 1_000_000_000_000L, 1_000_000_000_000L, 999_999_999_996L, 999_999_999_984L, 999_999_999_960L,
            999_999_999_360L, 999_999_997_920L};
        for (int n = 1; n <= 7; n++) {
            TagDraw x = Check.of(Check.hunters(n) + "unit u 1;asks ha u;");
            CHECK.due("24: chance(0, 0) of " + n, x.chance(0, 0), all[n]);
        }
    }

    // ---- "It is asked with at most 7 APPLICANTS"

    private static void chancesOfSeven() {
        TagDraw ten = Check.of(Check.hunters(10) + "unit u 4;party p ha hb hc hd;asks p u;");
        CHECK.due("24: chance(6, 0) of seven APPLICANTS of ten", ten.chance(6, 0), 999_999_997_920L);
        ten.split(0);
        CHECK.refused("24: chance(6, 0) of ten", ten, ten.chance(6, 0), 3);
        ten.undo();
        CHECK.due("24: chance(6, 0) of seven again", ten.chance(6, 0), 999_999_997_920L);
        TagDraw eight = Check.of(Check.hunters(9) + "unit u 4;party p ha hb;");
        CHECK.due("6: many(3)", eight.many(3), 8);
        CHECK.refused("24: chance(0, 0) of eight", eight, eight.chance(0, 0), 3);
    }

    /** No APPLICANTS: one ORDER, of none, with all PARTS. */
    private static void nobody() {
        TagDraw x = Check.of("unit u 3;");
        CHECK.due("27: sure(0) of no APPLICANTS", x.sure(0), 0);
        CHECK.due("27: sure(1) of no APPLICANTS", x.sure(1), 0);
        CHECK.due("28: mean(0) of no APPLICANTS", x.mean(0), 0);
        CHECK.due("29: given(0) of no APPLICANTS", x.given(0), 0);
        CHECK.due("29: given(1) of no APPLICANTS", x.given(1), 0);
        CHECK.due("30: ends() of no APPLICANTS", x.ends(), 1);
        CHECK.due("17: winners(0) of no APPLICANTS", x.winners(0), 0);
        CHECK.due("16: left(0, 0, 0) of no APPLICANTS", x.left(0, 0, 0), 3);
        CHECK.due("18: waits(0, 0, NONE) of no APPLICANTS", x.waits(0, 0, NONE), 0);
        CHECK.due("37: years(0, 30, 0) of no APPLICANTS", x.years(0, 30, 0), 0);
        CHECK.due("37: years(0, 30, 2) of no APPLICANTS", x.years(0, 30, 2), 0);
        CHECK.due("40: draw(0) of no APPLICANTS", x.draw(0), 0);
        CHECK.due("6: many(7)", x.many(7), 1);
        CHECK.due("49: print(0) of no APPLICANTS", x.print(0), 0);
        CHECK.refused("50: out(0) of no APPLICANTS", x, x.out(0), 5);
    }

    // ---- "BEHIND a RESULT"

    private static void behind() {
        for (int had = 0; had <= 20; had++) {
            TagDraw x = Check.of("unit u 0;unit v 20;hunter a " + had + ";hunter b " + had + ";hunter c " + had
                + ";hunter d " + had + ";asks a v;asks b u v;asks c u;");
            int[] behind = {0, had, Math.min(had + 1, 20), had};
            for (int h = 0; h < 4; h++) {
                CHECK.due("22: behind(0, " + h + ") from " + had, x.behind(0, h), behind[h]);
            }
            x.prefer(100);
            for (int h = 0; h < 4; h++) {
                CHECK.due("22: behind(0, " + h + ") by points from " + had, x.behind(0, h), behind[h]);
            }
            x.draw(0);
            for (int h = 0; h < 4; h++) {
                CHECK.due("40: hunter(" + h + ", 0) behind draw(0) from " + had, x.hunter(h, 0), behind[h]);
            }
        }
    }

    /** Each HUNTER of a PARTY from its own POINTS, not from the PARTY's. */
    private static void behindInParties() {
        String list = "unit u 2;unit v 2;hunter a 0;hunter b 20;hunter c 3;hunter d 0;party p a b;party q c d;";
        int[][] behind = {{0, 0, 4, 1}, {0, 20, 0, 0}, {1, 20, 4, 1}, {0, 20, 3, 0}};
        String[] asks = {"unit w 0;asks p u;asks q w;", "unit w 0;asks p w v;asks q u;", "unit w 0;asks p w;asks q w;", ""};
        for (int i = 0; i < asks.length; i++) {
            TagDraw x = Check.of(list + asks[i]);
            for (int h = 0; h < 4; h++) {
                CHECK.due("22: behind(0, " + h + ") with " + asks[i], x.behind(0, h), behind[i][h]);
            }
        }
    }

    // ---- "the first one by the SEED, each next one by 1 more, all with POINTS as they are BEHIND the one ahead"

    private static final String FOR_YEARS = "unit u 2;unit v 1;"
        + "hunter a 0;hunter b 3;hunter c 19;hunter d 5;hunter e 20 guest;party p a b;asks p u;asks c v u;asks d u v;asks e v;law line;prefer 50;guests 50;";

    /** YEARS on paper are as draw() by draw(); by the last SEED there is, too. */
    private static void years() {
        for (int seed : new int[] {0, 77, LAST_SEED - 30}) {
            TagDraw x = Check.of(FOR_YEARS);
            TagDraw y = Check.of(FOR_YEARS);
            int tags = 0;
            int[] often = new int[5];
            int[] dry = new int[5];
            int longest = 0;
            for (int n = 1; n <= 30; n++) {
                tags += y.draw(seed + n - 1);
                int never = 0;
                for (int h = 0; h < 5; h++) {
                    boolean has = y.hunter(h, 4) != NONE;
                    often[h] += has ? 1 : 0;
                    dry[h] = has ? 0 : dry[h] + 1;
                    longest = Math.max(longest, dry[h]);
                    never |= often[h] == 0 ? 1 << h : 0;
                }
                String of = "(" + seed + ", " + n + ", ";
                CHECK.due("37: years" + of + "0)", x.years(seed, n, 0), tags);
                CHECK.due("37: years" + of + "1)", x.years(seed, n, 1), never);
                CHECK.due("37: years" + of + "2)", x.years(seed, n, 2), longest);
                for (int h = 0; h < 5; h++) {
                    CHECK.due("38: often" + of + h + ")", x.often(seed, n, h), often[h]);
                }
            }
            CHECK.due("37: hunter(1, 0) as ever", x.hunter(1, 0), 3);
            CHECK.due("37: many(8) as ever", x.many(8), 0);
        }
    }

    // ---- "ACTS: draw(), points(), quota(), choose(), law(), prefer(), guests(), split()"

    /** Each of them can be undone; print(), a refused one, and what only asks is none. */
    private static void kinds() {
        TagDraw x = Check.of(FOR_YEARS);
        x.draw(0);
        CHECK.due("6: many(8) behind draw()", x.many(8), 1);
        x.points(0, 9);
        CHECK.due("6: many(8) behind points()", x.many(8), 2);
        x.quota(0, 9);
        CHECK.due("6: many(8) behind quota()", x.many(8), 3);
        x.choose(0, NONE, NONE, NONE);
        CHECK.due("6: many(8) behind choose()", x.many(8), 4);
        x.law(2);
        CHECK.due("6: many(8) behind law()", x.many(8), 5);
        x.prefer(9);
        CHECK.due("6: many(8) behind prefer()", x.many(8), 6);
        x.guests(9);
        CHECK.due("6: many(8) behind guests()", x.many(8), 7);
        x.split(0);
        CHECK.due("6: many(8) behind split()", x.many(8), 8);
        x.undo();
        x.print(0);
        x.years(0, 30, 0);
        x.together(0, 1);
        x.apart(0);
        x.need(4, 1000);
        x.feed(0, 0, 0, 0, 0);
        x.fault(0);
        x.draw(-1);
        CHECK.due("6: many(8) behind what is no ACT", x.many(8), 7);
    }

    // ---- "UNDO: the latest one not undone yet goes back; 8 are kept"

    private static void eightAreKept() {
        for (int acts = 0; acts <= 20; acts++) {
            TagDraw x = Check.of("hunter a 0;");
            for (int p = 1; p <= acts; p++) {
                x.points(0, p);
                CHECK.due("6: many(8) behind " + p, x.many(8), Math.min(p, 8));
            }
            int kept = Math.min(acts, 8);
            for (int i = 1; i <= kept; i++) {
                CHECK.due("48: undo() no. " + i + " of " + acts, x.undo(), kept - i);
                CHECK.due("48: hunter(0, 0) behind undo() no. " + i + " of " + acts, x.hunter(0, 0), acts - i);
            }
            CHECK.refused("48: undo() of one more than " + kept, x, x.undo(), 5);
            CHECK.due("48: hunter(0, 0) of " + acts, x.hunter(0, 0), acts - kept);
        }
        // Undone in between, and new ones behind: what was undone is gone.
        TagDraw y = Check.of("hunter a 0;");
        for (int round = 0; round < 5; round++) {
            for (int p = 1; p <= 7; p++) {
                y.points(0, p);
            }
            for (int i = 6; i >= 1; i--) {
                CHECK.due("48: undo() in round " + round, y.undo(), i);
            }
            CHECK.due("48: hunter(0, 0) in round " + round, y.hunter(0, 0), 1);
            y.points(0, 0);
            y.undo();
            y.undo();
            CHECK.due("48: hunter(0, 0) behind round " + round, y.hunter(0, 0), 0);
            y.points(0, 20);
            y.points(0, 0);
            y.undo();
            y.undo();
            y.law(1 + round % 2);
            y.undo();
        }
        // Ten draws are counted, eight of them can go back.
        TagDraw z = Check.of("hunter a 0;");
        for (int i = 1; i <= 10; i++) {
            z.draw(i);
        }
        CHECK.due("6: many(7) of ten", z.many(7), 10);
        while (z.undo() > 0) {
            CHECK.due("6: many(7) and many(8)", z.many(7) - z.many(8), 2);
        }
        CHECK.due("6: many(7) behind all undo()s", z.many(7), 2);
    }

    // ---- "load() forgets them"

    private static void loadForgets() {
        TagDraw x = Check.of("hunter a 0;");
        x.points(0, 1);
        x.draw(0);
        CHECK.refused("4: load(-1)", x, x.load(-1), 1);
        CHECK.due("6: many(8) behind a load() with 1", x.many(8), 2);
        CHECK.refused("4: load with a FAULT", x, Check.load(x, ";"), 9);
        CHECK.due("6: many(8) behind a load() with 9", x.many(8), 2);
        CHECK.due("6: many(7) behind a load() with 9", x.many(7), 1);
        CHECK.due("48: undo() behind a load() with 9", x.undo(), 1);
        CHECK.due("4: load of no bytes", x.load(0), 0);
        CHECK.due("6: many(8) behind load()", x.many(8), 0);
        CHECK.due("6: many(7) behind load()", x.many(7), 0);
        CHECK.refused("48: undo() behind load()", x, x.undo(), 5);
        CHECK.due("48: many(1)", x.many(1), 0);
    }
}
