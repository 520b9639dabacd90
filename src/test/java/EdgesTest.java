/**
 * The edges of the promises' answers, promise by promise: nothing at all, as much as there may be, the last number
 * that does and the first that does not. What is refused stands in RefusedTest, what the terms say in TermsTest.
 */
public final class EdgesTest {
    private static final Check CHECK = new Check();
    private static final int NONE = TagDraw.NONE;
    private static final long ALL = 1_000_000_000_000L;
    private static final int LAST_SEED = 999_999_999;
    /** Ten HUNTERS who all ask for u, and what stands in it for its QUOTA. */
    private static final String TEN = asking(10);

    public static void main(String[] args) {
        promise2();
        promise3();
        promise4();
        promise5();
        promise6();
        promise7();
        promise8();
        promise9();
        promise11();
        promise12();
        promises13To15();
        promise16();
        promise17();
        promise18();
        promise19();
        promise19ForGuests();
        promise20();
        promise21();
        promise23();
        promise24();
        promises25And26();
        promise27();
        promises28And29();
        promise30();
        promise31();
        promises32And33();
        promise34();
        promise35();
        promise36();
        promises37And38();
        promise39();
        promise40();
        promises41To46();
        promise43();
        promise47();
        promises49And50();
        CHECK.end("EdgesTest");
    }

    private static String asking(int n) {
        StringBuilder text = new StringBuilder(Check.hunters(n));
        for (int h = 0; h < n; h++) {
            text.append("asks h").append((char) ('a' + h)).append(" u;");
        }
        return text.toString();
    }

    private static void promise2() {
        TagDraw x = new TagDraw();
        CHECK.due("2: status() of a new object", x.status(), 0);
        x.hunter(0, 0);
        CHECK.due("2: status() behind a refused call", x.status(), 2);
        CHECK.due("2: status() behind status()", x.status(), 2);
        x.winners(0);
        CHECK.due("2: status() behind an answered call", x.status(), 0);
    }

    /** Each of the twenty bytes has its place, those above 127 too. */
    private static void promise3() {
        for (int at = 0; at < 20; at++) {
            for (int wrong : new int[] {128, 255, 233}) {
                int[] five = {0x20202020, 0x20202020, 0x20202020, 0x20202020, 0x20202020};
                int shift = 24 - at % 4 * 8;
                five[at / 4] = five[at / 4] & ~(255 << shift) | wrong << shift;
                TagDraw x = new TagDraw();
                CHECK.due("3: feed() of a first", x.feed(0x20202020, 0x20202020, 0x0a0a0a0a, 0x20202020, 0x20202020), 20);
                CHECK.due("3: feed() with " + wrong + " at " + at, x.feed(five[0], five[1], five[2], five[3], five[4]), 40);
                CHECK.refused("4: load(40)", x, x.load(40), 9);
                CHECK.due("5: fault(0)", x.fault(0), 1);
                CHECK.due("5: fault(1) with " + wrong + " at " + at, x.fault(1), 20 + at);
            }
        }
        TagDraw full = new TagDraw();
        for (int n = 20; n <= 700; n += 20) {
            CHECK.due("3: feed() up to " + n, full.feed(-1, -1, -1, -1, -1), n);
        }
        CHECK.due("3: feed() of more than 700", full.feed(-1, -1, -1, -1, -1), NONE);
        CHECK.due("3: status() behind it", full.status(), 0);
        CHECK.due("4: load(0) of 700", full.load(0), 0);
        CHECK.due("3: feed() when the tape is empty again", full.feed(-1, -1, -1, -1, -1), 20);
    }

    private static void promise4() {
        TagDraw x = new TagDraw();
        CHECK.due("4: load(0) of no tape", x.load(0), 0);
        CHECK.refused("4: load(1) of no tape", x, x.load(1), 1);
        Check.feed(x, "hunter a 1;hunter b 1;");
        CHECK.refused("4: load(41) of 40", x, x.load(41), 1);
        CHECK.refused("4: load(-1) of 40", x, x.load(-1), 1);
        CHECK.due("4: load(40) of 40", x.load(40), 2);
        CHECK.refused("4: load(1) behind it", x, x.load(1), 1);
        Check.feed(x, "hunter a 1;hunter b 1;");
        CHECK.due("4: load(11) of 40", x.load(11), 1);
        CHECK.refused("4: load(1) behind it", x, x.load(1), 1);
        Check.feed(x, "hunter a 1;hunter b 1;");
        CHECK.refused("4: load(10) of 40", x, x.load(10), 9);
        CHECK.refused("4: load(1) behind a FAULT", x, x.load(1), 1);
        CHECK.due("6: many(1) behind a FAULT", x.many(1), 1);
        CHECK.due("4: load of ten", Check.load(x, Check.hunters(10)), 10);
    }

    private static void promise5() {
        TagDraw x = new TagDraw();
        int[] others = {Integer.MIN_VALUE, -1, 2, Integer.MAX_VALUE};
        for (int round = 0; round < 3; round++) {
            for (int what : others) {
                CHECK.due("5: fault(" + what + ")", x.fault(what), NONE);
            }
            if (round == 0) {
                CHECK.due("5: fault(0) ahead of any", x.fault(0), NONE);
                CHECK.due("5: fault(1) ahead of any", x.fault(1), NONE);
                x.load(1);
                CHECK.due("5: fault(0) behind a load() with 1", x.fault(0), NONE);
                CHECK.due("5: fault(1) behind a load() with 1", x.fault(1), NONE);
            }
            Check.load(x, " ,");
            CHECK.due("5: fault(0) at 1", x.fault(0), 1);
            CHECK.due("5: fault(1) at 1", x.fault(1), 1);
            Check.load(x, ";");
            CHECK.due("5: fault(0) at 0", x.fault(0), 2);
            CHECK.due("5: fault(1) at 0", x.fault(1), 0);
            x.load(-1);
            CHECK.due("5: fault(1) behind a load() with 1", x.fault(1), 0);
            x.load(0);
            CHECK.due("5: fault(0) without one", x.fault(0), 0);
            CHECK.due("5: fault(1) without one", x.fault(1), NONE);
            x.load(-1);
            CHECK.due("5: fault(0) behind a load() with 1", x.fault(0), 0);
        }
    }

    private static void promise6() {
        TagDraw x = Check.of("unit a 20;unit b 20;unit c 20;unit d 20;unit e 20;"
            + Check.hunters(10).replace(" 0;", " 0 guest;")
            + "party p ha hb;party q hc hd;party r he hf;party s hg hh;law square;prefer 100;guests 0;");
        int[] many = {5, 10, 4, 6, 2, 100, 0, 0, 0, 100, 10};
        for (int what = 0; what <= 10; what++) {
            CHECK.due("6: many(" + what + ") of the most", x.many(what), many[what]);
        }
        x.load(0);
        int[] least = {0, 0, 0, 0, 0, 0, 100, 0, 0, 0, 0};
        for (int what = 0; what <= 10; what++) {
            CHECK.due("6: many(" + what + ") of nothing", x.many(what), least[what]);
        }
    }

    private static void promise7() {
        TagDraw x = Check.of("unit u 1;unit v 2;hunter a 20;hunter b 0;hunter c 0 guest;party p b c;asks a u;asks p v;");
        for (int h = 0; h < 3; h++) {
            CHECK.due("7: hunter(" + h + ", 4) ahead of any draw()", x.hunter(h, 4), NONE);
            CHECK.due("7: status() of NONE", x.status(), 0);
        }
        CHECK.due("7: hunter(0, 0)", x.hunter(0, 0), 20);
        CHECK.due("7: hunter(0, 2)", x.hunter(0, 2), NONE);
        CHECK.due("7: status() of NONE", x.status(), 0);
        x.draw(0);
        int[] has = {0, 1, 1};
        for (int h = 0; h < 3; h++) {
            CHECK.due("7: hunter(" + h + ", 4)", x.hunter(h, 4), has[h]);
        }
        // By the latest draw(), whatever becomes of the list behind it.
        x.split(0);
        x.quota(1, 0);
        x.choose(0, NONE, NONE, NONE);
        x.draw(-1);
        for (int h = 0; h < 3; h++) {
            CHECK.due("7: hunter(" + h + ", 4) by the latest draw()", x.hunter(h, 4), has[h]);
        }
        x.draw(0);
        for (int h = 0; h < 3; h++) {
            CHECK.due("7: hunter(" + h + ", 4) by the next draw()", x.hunter(h, 4), NONE);
            CHECK.due("7: status() of NONE", x.status(), 0);
        }
        x.undo();
        CHECK.due("7: hunter(2, 4) behind undo()", x.hunter(2, 4), 1);
    }

    private static void promise8() {
        TagDraw x = Check.of("unit u 20;unit v 0;" + TEN + "prefer 100;guests 100;");
        int[] full = {20, 20, 20, 10, 10, 10};
        int[] none = {0, 0, 0, 0, 0, 0};
        for (int what = 0; what < 6; what++) {
            CHECK.due("8: unit(0, " + what + ")", x.unit(0, what), full[what]);
            CHECK.due("8: unit(1, " + what + ")", x.unit(1, what), none[what]);
        }
        // The first, the second and the third CHOICE; HUNTERS and APPLICANTS.
        TagDraw y = Check.of("unit u 1;unit v 1;unit w 1;hunter a 0;hunter b 0;hunter c 0;hunter d 0;hunter e 0;"
            + "party p a b c d;asks p u v w;asks e w v;");
        int[][] units = {{1, 4, 1}, {0, 0, 2}, {1, 1, 2}};
        for (int u = 0; u < 3; u++) {
            for (int what = 3; what < 6; what++) {
                CHECK.due("8: unit(" + u + ", " + what + ")", y.unit(u, what), units[u][what - 3]);
            }
        }
    }

    private static void promise9() {
        TagDraw x = Check.of("unit u 1;unit v 1;unit w 1;" + Check.hunters(10).replace(" 0;", " 20 guest;")
            + "party p hg hh hi hj;asks p w v u;law square;");
        int[] party = {4, 4, 20, 401, 3, 960, 0};
        int[] alone = {1, 1, 20, 401, 0, 32, NONE};
        for (int what = 0; what < 7; what++) {
            CHECK.due("9: applicant(6, " + what + ")", x.applicant(6, what), party[what]);
            CHECK.due("9: applicant(5, " + what + ")", x.applicant(5, what), alone[what]);
            CHECK.due("9: status()", x.status(), 0);
        }
        CHECK.due("10: choice(6, 2), the last one", x.choice(6, 2), 0);
        CHECK.refused("10: choice(6, 3), not so many", x, x.choice(6, 3), 5);
    }

    private static void promise11() {
        int[][] rows = {{0, NONE, NONE}, {1, 10, 1}, {2, 5, 1}, {3, 10, 3}, {10, 1, 1}, {15, 2, 3}, {20, 1, 2}, {19, 10, 19}};
        for (int[] row : rows) {
            TagDraw x = Check.of("unit u " + row[0] + ";unit v " + row[0] + ";" + TEN);
            CHECK.due("11: demand(0, 0) of ten by " + row[0], x.demand(0, 0), row[1]);
            CHECK.due("11: status() of " + row[0], x.status(), row[0] == 0 ? 5 : 0);
            CHECK.due("11: demand(0, 1) of ten by " + row[0], x.demand(0, 1), row[2]);
            CHECK.due("11: demand(1, 0) of none by " + row[0], x.demand(1, 0), row[0] == 0 ? NONE : 0);
            CHECK.due("11: demand(1, 1) of none by " + row[0], x.demand(1, 1), row[0] == 0 ? NONE : 1);
        }
        TagDraw x = Check.of("unit u 6;unit v 6;hunter a 0;hunter b 0;hunter c 0;party p a b;asks p u;asks c v u;");
        CHECK.due("11: demand(0, 0) of HUNTERS", x.demand(0, 0), 1);
        CHECK.due("11: demand(0, 1) of HUNTERS", x.demand(0, 1), 3);
    }

    private static void promise12() {
        TagDraw x = Check.of(Check.hunters(10));
        CHECK.due("12: share(9, 0) of ten", x.share(9, 0), 1);
        CHECK.due("12: share(9, 1) of ten", x.share(9, 1), 10);
        x.law(2);
        x.points(9, 20);
        CHECK.due("12: share(9, 0) of 401 by 410", x.share(9, 0), 401);
        CHECK.due("12: share(9, 1) of 401 by 410", x.share(9, 1), 410);
        x.points(9, 3);
        CHECK.due("12: share(9, 0) of 10 by 19", x.share(9, 0), 10);
        CHECK.due("12: share(9, 1) of 10 by 19", x.share(9, 1), 19);
        x.points(8, 1);
        CHECK.due("12: share(9, 0) of 10 by 20", x.share(9, 0), 1);
        CHECK.due("12: share(9, 1) of 10 by 20", x.share(9, 1), 2);
    }

    private static void promises13To15() {
        TagDraw one = Check.of("unit u 1;hunter a 0;asks a u;");
        for (int seed : new int[] {0, LAST_SEED}) {
            CHECK.due("13: order(" + seed + ", 0) of one", one.order(seed, 0), 0);
            CHECK.refused("13: order(" + seed + ", 1) of one", one, one.order(seed, 1), 5);
            CHECK.due("14: drawn(" + seed + ", 0) of one", one.drawn(seed, 0), 0);
            CHECK.due("15: round(" + seed + ", 0) by lot", one.round(seed, 0), 2);
        }
        one.prefer(100);
        CHECK.due("15: round(0, 0) by points", one.round(0, 0), 1);
        one.quota(0, 0);
        CHECK.refused("14: drawn(0, 0) of none", one, one.drawn(0, 0), 5);
        CHECK.refused("15: round(0, 0) of none", one, one.round(0, 0), 5);
        // Each of ten stands in the ORDER once; the first nine have one of nine TAGS.
        TagDraw ten = Check.of("unit u 9;" + TEN);
        int seen = 0;
        for (int k = 0; k < 10; k++) {
            int a = ten.order(LAST_SEED, k);
            seen |= 1 << a;
            CHECK.due("14: drawn(LAST, order(LAST, " + k + "))", ten.drawn(LAST_SEED, a), k < 9 ? 0 : NONE);
            CHECK.due("14: status()", ten.status(), k < 9 ? 0 : 5);
        }
        CHECK.due("13: order(LAST, 0 to 9)", seen, 1023);
        CHECK.refused("13: order(LAST, 10) of ten", ten, ten.order(LAST_SEED, 10), 5);
        TagDraw last = Check.of("unit a 0;unit b 0;unit c 0;unit d 0;unit u 10;" + TEN);
        CHECK.due("14: drawn(0, 9) of the fifth UNIT", last.drawn(0, 9), 4);
    }

    private static void promise16() {
        int[][] rows = {{0, 0, 0}, {1, 0, 1}, {9, 0, 9}, {10, 0, 10}, {11, 1, 10}, {20, 10, 10}};
        for (int[] row : rows) {
            TagDraw x = Check.of("unit u " + row[0] + ";" + TEN);
            CHECK.due("16: left(0, 0, 0) of " + row[0], x.left(0, 0, 0), row[1]);
            CHECK.due("16: left(0, 0, 1) of " + row[0], x.left(0, 0, 1), row[0]);
            CHECK.due("16: left(0, 0, 2) of " + row[0], x.left(0, 0, 2), row[2]);
            CHECK.due("16: left(0, 0, 3) of " + row[0], x.left(0, 0, 3), row[2] == 0 ? NONE : 0);
            CHECK.due("16: status()", x.status(), row[2] == 0 ? 5 : 0);
        }
        // The fewest POINTS: of one, of two, of those alone that have it; a PARTY's are its own.
        TagDraw x = Check.of("unit u 3;unit v 0;hunter a 20;hunter b 19;hunter c 18;hunter d 0;hunter e 0;party p b c;"
            + "asks a u;asks d v;asks p u;");
        CHECK.due("16: left(0, 0, 3)", x.left(0, 0, 3), 18);
        x.choose(3, NONE, NONE, NONE);
        CHECK.due("16: left(0, 0, 3) of one with 20", x.left(0, 0, 3), 20);
        x.choose(0, NONE, NONE, NONE);
        CHECK.refused("16: left(0, 0, 3) of none", x, x.left(0, 0, 3), 5);
        CHECK.refused("16: left(0, 1, 3) of none", x, x.left(0, 1, 3), 5);
        // GUESTS alone are counted against what is for them.
        TagDraw guests = Check.of("unit u 6;hunter a 0 guest;hunter b 0;hunter c 0 guest;hunter d 0 guest;party p a b c;"
            + "asks p u;asks d u;guests 50;");
        CHECK.due("16: left(0, 0, 0) by three GUESTS of four", guests.left(0, 0, 0), 2);
        CHECK.due("16: left(0, 0, 1) by three GUESTS of four", guests.left(0, 0, 1), 0);
        guests.choose(0, NONE, NONE, NONE);
        CHECK.due("16: left(0, 0, 1) by two GUESTS of three", guests.left(0, 0, 1), 1);
    }

    private static void promise17() {
        int[] bits = {0, 1023};
        for (int i = 0; i < 2; i++) {
            TagDraw x = Check.of("unit u " + 10 * i + ";" + TEN);
            CHECK.due("17: winners(0) of " + 10 * i, x.winners(0), bits[i]);
            CHECK.due("17: winners(LAST) of " + 10 * i, x.winners(LAST_SEED), bits[i]);
        }
        CHECK.due("17: winners(0) of no list", new TagDraw().winners(0), 0);
        TagDraw party = Check.of("unit u 2;" + Check.hunters(10) + "party p ha hj;asks p u;");
        CHECK.due("17: winners(0) of the first and the last", party.winners(0), 513);
    }

    private static void promise18() {
        TagDraw x = Check.of("unit u 0;" + TEN);
        CHECK.due("18: waits(7, 0, NONE) of ten", x.waits(7, 0, NONE), 10);
        for (int k = 0; k < 10; k++) {
            CHECK.due("18: waits(7, 0, " + k + ") of ten", x.waits(7, 0, k), x.order(7, k));
        }
        CHECK.refused("18: waits(7, 0, 10) of ten", x, x.waits(7, 0, 10), 5);
        x.quota(0, 10);
        CHECK.due("18: waits(7, 0, NONE) of none", x.waits(7, 0, NONE), 0);
        CHECK.due("18: status() of none", x.status(), 0);
        CHECK.refused("18: waits(7, 0, 0) of none", x, x.waits(7, 0, 0), 5);
        // By the second and the third CHOICE, too; not those that have another UNIT, nor those without CHOICES.
        TagDraw y = Check.of("unit u 0;unit v 0;unit w 1;hunter a 0;hunter b 0;hunter c 0;hunter d 0;hunter e 0;hunter f 0;"
            + "party p e f;asks a u w;asks b v;asks p u v w;asks d v u;");
        CHECK.due("18: waits(0, 0, NONE) of d and p", y.waits(0, 0, NONE), 2);
        CHECK.due("18: waits(0, 1, NONE) of b, d and p", y.waits(0, 1, NONE), 3);
        CHECK.due("18: waits(0, 2, NONE) of p", y.waits(0, 2, NONE), 1);
        CHECK.due("18: waits(0, 2, 0)", y.waits(0, 2, 0), 4);
        CHECK.refused("18: waits(0, 2, 1)", y, y.waits(0, 2, 1), 5);
    }

    private static void promise19() {
        TagDraw four = Check.of("unit u 0;hunter a 0;hunter b 0;hunter c 0;hunter d 0;party p a b c d;asks p u;");
        for (int n = 0; n <= 20; n++) {
            CHECK.due("19: next(0, 0, " + n + ") of four", four.next(0, 0, n), n < 4 ? NONE : 0);
            CHECK.due("19: status()", four.status(), n < 4 ? 5 : 0);
        }
        // What is left is counted, too.
        four.quota(0, 3);
        CHECK.refused("19: next(0, 0, 0) of four, three left", four, four.next(0, 0, 0), 5);
        CHECK.due("19: next(0, 0, 1) of four, three left", four.next(0, 0, 1), 0);
        four.quota(0, 4);
        CHECK.refused("19: next(0, 0, 20) of nobody", four, four.next(0, 0, 20), 5);
        // The first one in the row that FITS, even if it stands behind one that does not.
        TagDraw x = Check.of("unit u 0;hunter a 0;hunter b 0;hunter c 0;hunter d 0;party p a b;asks p u;asks c u;asks d u;");
        for (int seed = 0; seed < 20; seed++) {
            int first = x.waits(seed, 0, 0);
            CHECK.due("19: next(" + seed + ", 0, 2)", x.next(seed, 0, 2), first);
            CHECK.due("19: next(" + seed + ", 0, 1)", x.next(seed, 0, 1), first == 2 ? x.waits(seed, 0, 1) : first);
            CHECK.refused("19: next(" + seed + ", 0, 0)", x, x.next(seed, 0, 0), 5);
        }
    }

    /** "n more for GUESTS, too" */
    private static void promise19ForGuests() {
        TagDraw x = Check.of("unit u 20;hunter a 0 guest;hunter b 0 guest;party p a b;asks p u;guests 0;");
        CHECK.refused("19: next(0, 0, 0) of two GUESTS", x, x.next(0, 0, 0), 5);
        CHECK.refused("19: next(0, 0, 1) of two GUESTS", x, x.next(0, 0, 1), 5);
        CHECK.due("19: next(0, 0, 2) of two GUESTS", x.next(0, 0, 2), 0);
        x.guests(5);
        CHECK.refused("19: next(0, 0, 0) of two GUESTS, one left", x, x.next(0, 0, 0), 5);
        CHECK.due("19: next(0, 0, 1) of two GUESTS, one left", x.next(0, 0, 1), 0);
    }

    /** APPLICANTS: c and d, and the PARTY p that has its second CHOICE. */
    private static void promise20() {
        TagDraw x = Check.of("unit u 1;unit v 2;unit w 1;hunter a 5;hunter b 5;hunter c 4;hunter d 4;party p a b;"
            + "asks c u;asks d w;asks p u v w;");
        CHECK.due("20: envies(0, 2) with one more", x.envies(0, 2), 1);
        x.points(2, 5);
        CHECK.due("20: envies(0, 2) with as many", x.envies(0, 2), 0);
        x.points(2, 6);
        CHECK.due("20: envies(0, 2) with one less", x.envies(0, 2), 0);
        x.points(2, 0);
        x.quota(0, 3);
        CHECK.due("20: envies(0, 2) with its first CHOICE", x.envies(0, 2), 0);
        x.quota(0, 1);
        x.quota(1, 1);
        CHECK.due("20: envies(0, 2) with none, all three", x.envies(0, 2), 3);
        x.choose(2, 1, 2, NONE);
        CHECK.due("20: envies(0, 2) with none, two of them", x.envies(0, 2), 2);
        x.choose(2, NONE, NONE, NONE);
        CHECK.due("20: envies(0, 2) without CHOICES", x.envies(0, 2), 0);
        x.choose(2, 0, 2, 1);
        x.quota(1, 2);
        CHECK.due("20: envies(0, 2) with its third CHOICE", x.envies(0, 2), 3);
        // The tenth one envies all others, and is a bit itself for the first one.
        TagDraw ten = Check.of("unit u 9;" + TEN.replace("hj 0", "hj 20"));
        for (int seed = 0; seed < 20; seed++) {
            boolean has = ten.winners(seed) >> 9 == 1;
            CHECK.due("20: envies(" + seed + ", 9) of ten", ten.envies(seed, 9), has ? 0 : 511);
            ten.points(0, 20);
            ten.points(9, 0);
            int others = ten.winners(seed) & 1023 & ~1;
            CHECK.due("20: envies(" + seed + ", 0) of ten", ten.envies(seed, 0), others == 1022 ? 1022 : 0);
            ten.points(0, 0);
            ten.points(9, 20);
        }
    }

    /** APPLICANTS: a has u, b its third CHOICE, c has v, d has none, e is without CHOICES. */
    private static void promise21() {
        TagDraw x = Check.of("unit u 1;unit v 1;unit w 1;hunter a 9;hunter b 8;hunter c 7;hunter d 0;hunter e 20;"
            + "asks a u;asks b u v w;asks c v;asks d w;prefer 100;");
        CHECK.refused("21: b has its third CHOICE only if d has none", x, x.drawn(0, 1), 5);
        // By points, d has w; b has none: without a, b has u; without c, v; without d, w.
        int[] spoils = {2, 0, 2, 2, 0};
        for (int a = 0; a < 5; a++) {
            CHECK.due("21: spoils(0, " + a + ") of one at all", x.spoils(0, a), spoils[a]);
        }
        x.choose(3, NONE, NONE, NONE);
        int[] further = {2, 0, 2, 0, 0};
        CHECK.due("21: b has its third CHOICE", x.drawn(0, 1), 2);
        for (int a = 0; a < 5; a++) {
            CHECK.due("21: spoils(0, " + a + ") of one further ahead", x.spoils(0, a), further[a]);
        }
        CHECK.due("21: many(8) as ever", x.many(8), 1);
        // Those who would have what they have, or one further behind, are not spoiled.
        TagDraw y = Check.of("unit u 1;unit v 2;hunter a 1;hunter b 0;asks a u;asks b v u;prefer 100;");
        CHECK.due("21: spoils(0, 0) of one that has its first", y.spoils(0, 0), 0);
        TagDraw ten = Check.of("unit u 9;" + TEN);
        int last = ten.order(0, 9);
        for (int k = 0; k < 10; k++) {
            CHECK.due("21: spoils(0, ..) of the last of ten, " + k, ten.spoils(0, ten.order(0, k)), k < 9 ? 1 << last : 0);
        }
    }

    private static void promise23() {
        TagDraw x = Check.of("unit u 1;hunter a 0;asks a u;");
        CHECK.due("23: lucky(0, 0) of one", x.lucky(0, 0), 0);
        CHECK.due("23: lucky(999999949, 0) of one", x.lucky(999_999_949, 0), 999_999_949);
        CHECK.refused("23: lucky(999999950, 0) of one", x, x.lucky(999_999_950, 0), 1);
        x.quota(0, 0);
        CHECK.refused("23: lucky(0, 0) of none", x, x.lucky(0, 0), 5);
        CHECK.refused("23: lucky(999999949, 0) of none", x, x.lucky(999_999_949, 0), 5);
        // Of 50 SEEDS from one on: the same as one by one, up to the last and no further.
        TagDraw rare = Check.of("unit u 1;hunter a 0;hunter b 20;asks a u;asks b u;law square;");
        int at = rare.lucky(280, 0);
        CHECK.due("23: lucky(280, 0)", at, 329);
        for (int seed = 279; seed <= 329; seed++) {
            CHECK.due("13: order(" + seed + ", 0)", rare.order(seed, 0), seed == 329 ? 0 : 1);
        }
        CHECK.due("23: lucky(329, 0) at once", rare.lucky(329, 0), 329);
        CHECK.refused("23: lucky(279, 0)", rare, rare.lucky(279, 0), 5);
    }

    private static void promise24() {
        TagDraw x = Check.of("unit u 1;unit v 1;hunter a 0;asks a u v;");
        long[][] due = {{ALL, ALL, 0}, {ALL, ALL, ALL}, {ALL, 0, 0}, {0, 0, 0}};
        for (int i = 0; i < 4; i++) {
            for (int what = 0; what < 3; what++) {
                CHECK.due("24: chance(0, " + what + ") of one, case " + i, x.chance(0, what), due[i][what]);
                CHECK.due("24: status()", x.status(), 0);
            }
            if (i == 0) {
                x.prefer(100);
            } else {
                x.quota(i - 1, 0);
            }
        }
        // In the first round it has its first CHOICE; by lot it may have that, too.
        TagDraw y = Check.of("unit u 2;hunter a 0;hunter b 0;asks a u;asks b u;prefer 50;");
        CHECK.due("24: chance(0, 0) of two for two", y.chance(0, 0), ALL);
        CHECK.due("24: chance(0, 1) of two for two", y.chance(0, 1), ALL);
        CHECK.due("24: chance(0, 2) of two for two", y.chance(0, 2), ALL / 2);
    }

    private static void promises25And26() {
        TagDraw x = Check.of("unit u 1;unit v 1;unit w 1;hunter a 0;hunter b 0;hunter c 0;asks a u v;asks b v u;");
        CHECK.due("25: at(0, 0)", x.at(0, 0), 999_999_999_996L);
        CHECK.due("25: at(0, 1), its second CHOICE", x.at(0, 1), 0);
        CHECK.due("25: at(0, 2), none of its CHOICES", x.at(0, 2), 0);
        CHECK.due("25: at(2, 2) without CHOICES", x.at(2, 2), 0);
        CHECK.due("26: both(0, 1)", x.both(0, 1), 999_999_999_996L);
        CHECK.due("26: both(1, 0)", x.both(1, 0), 999_999_999_996L);
        CHECK.due("26: both(0, 2) without CHOICES", x.both(0, 2), 0);
        x.quota(0, 0);
        // v is b's if b is ahead, and else a's: never both.
        CHECK.due("26: both(0, 1) of one TAG", x.both(0, 1), 0);
        CHECK.due("25: at(0, 1) of one TAG", x.at(0, 1), 499_999_999_998L);
        CHECK.due("25: at(1, 1) of one TAG", x.at(1, 1), 499_999_999_998L);
    }

    private static void promise27() {
        String seven = asking(7);
        int[][] rows = {{0, 0, 127}, {1, 0, 0}, {6, 0, 0}, {7, 127, 0}, {20, 127, 0}};
        for (int[] row : rows) {
            TagDraw x = Check.of("unit u " + row[0] + ";" + seven);
            CHECK.due("27: sure(0) of seven by " + row[0], x.sure(0), row[1]);
            CHECK.due("27: sure(1) of seven by " + row[0], x.sure(1), row[2]);
        }
        TagDraw y = Check.of("unit u 1;hunter a 1;hunter b 0;hunter c 0;asks a u;asks b u;prefer 100;");
        CHECK.due("27: sure(0) by points", y.sure(0), 1);
        CHECK.due("27: sure(1) by points", y.sure(1), 6);
    }

    private static void promises28And29() {
        TagDraw x = Check.of("unit u 20;unit v 0;" + Check.hunters(10)
            + "party p ha hb hc hd;party q he hf;party r hg hh;party s hi hj;asks p u;asks q u;asks r u;asks s u;");
        CHECK.due("28: mean(0) of ten HUNTERS", x.mean(0), 10 * 999_999_999_984L);
        CHECK.due("28: mean(1) of none", x.mean(1), 0);
        CHECK.due("29: given(0) of ten HUNTERS", x.given(0), 10);
        CHECK.due("29: given(1) of ten HUNTERS", x.given(1), 10);
        x.quota(0, 4);
        // p alone, if it is first; else two of q, r and s, and p does not fit behind one of them.
        CHECK.due("29: given(0) of four TAGS", x.given(0), 4);
        CHECK.due("29: given(1) of four TAGS", x.given(1), 4);
        x.quota(0, 5);
        CHECK.due("29: given(1) of five TAGS", x.given(1), 4);
        x.quota(0, 1);
        CHECK.due("29: given(1) of one TAG", x.given(1), 0);
        CHECK.due("28: mean(0) of one TAG", x.mean(0), 0);
        TagDraw y = Check.of("unit u 2;unit v 1;hunter a 0;hunter b 0;hunter c 0;party p a b;asks p u;asks c u v;");
        CHECK.due("29: given(0), two UNITS together", y.given(0), 1);
        CHECK.due("29: given(1), two UNITS together", y.given(1), 3);
        CHECK.due("28: mean(0) of a PARTY or one", y.mean(0), 2 * ALL / 2 + ALL / 2);
        CHECK.due("28: mean(1) of one or none", y.mean(1), ALL / 2);
    }

    private static void promise30() {
        String seven = asking(7);
        int[] sets = {1, 7, 21, 35, 35, 21, 7, 1, 1};
        for (int quota = 0; quota <= 8; quota++) {
            CHECK.due("30: ends() of seven by " + quota, Check.of("unit u " + quota + ";" + seven).ends(), sets[quota]);
        }
        // The same set with other UNITS is no other end.
        TagDraw x = Check.of("unit u 1;unit v 1;hunter a 0;hunter b 0;asks a u v;asks b u v;");
        CHECK.due("30: ends() of one set", x.ends(), 1);
        CHECK.due("30: ends() of no list", new TagDraw().ends(), 1);
    }

    private static void promise31() {
        TagDraw one = Check.of("unit u 1;hunter a 20;asks a u;");
        CHECK.due("31: need(0, 0) of one", one.need(0, 0), 0);
        CHECK.due("31: need(0, 1000) of one", one.need(0, 1000), 0);
        one.quota(0, 0);
        CHECK.due("31: need(0, 0) of none", one.need(0, 0), 0);
        CHECK.refused("31: need(0, 1) of none", one, one.need(0, 1), 5);
        // 999,999,999,999 PARTS are 999 thousandths, cut; with as many POINTS as the other one they are all.
        TagDraw cut = Check.of("unit u 2;hunter a 1;hunter b 0;asks a u;asks b u;law line;");
        CHECK.due("24: chance(1, 0)", cut.chance(1, 0), ALL - 1);
        CHECK.due("31: need(1, 999)", cut.need(1, 999), 0);
        CHECK.due("31: need(1, 1000)", cut.need(1, 1000), 1);
        // 21 of 22 TICKETS are 954 thousandths: 20 do; 20 of 21 are 952, 19 do not.
        TagDraw last = Check.of("unit u 1;hunter a 5;hunter b 0;asks a u;asks b u;law line;");
        CHECK.due("31: need(0, 952)", last.need(0, 952), 19);
        CHECK.due("31: need(0, 953)", last.need(0, 953), 20);
        CHECK.due("31: need(0, 954)", last.need(0, 954), 20);
        CHECK.refused("31: need(0, 955)", last, last.need(0, 955), 5);
        CHECK.due("31: need(0, 500), less than it has", last.need(0, 500), 0);
        CHECK.due("31: need(0, 501)", last.need(0, 501), 1);
    }

    private static void promises32And33() {
        TagDraw x = Check.of("unit a 0;unit b 0;unit c 0;unit d 0;unit e 1;hunter h 0;hunter i 0;party p h i;asks p a;");
        CHECK.due("32: wise(0) of none, the first", x.wise(0), 0);
        CHECK.due("33: wiseChance(0) of none", x.wiseChance(0), 0);
        CHECK.due("33: status() of none", x.status(), 0);
        x.quota(4, 2);
        CHECK.due("32: wise(0), the last one", x.wise(0), 4);
        CHECK.due("33: wiseChance(0), the last one", x.wiseChance(0), ALL);
        x.quota(3, 2);
        CHECK.due("32: wise(0), the first of two", x.wise(0), 3);
        CHECK.due("32: choice(0, 0) as ever", x.choice(0, 0), 0);
        CHECK.due("32: applicant(0, 4) as ever", x.applicant(0, 4), 1);
        TagDraw bare = Check.of("unit u 1;hunter a 0;");
        CHECK.due("32: wise(0) without CHOICES", bare.wise(0), 0);
        CHECK.due("33: wiseChance(0) without CHOICES", bare.wiseChance(0), ALL);
        TagDraw none = Check.of("hunter a 0;");
        CHECK.refused("32: wise(0) without UNITS", none, none.wise(0), 5);
        CHECK.refused("33: wiseChance(0) without UNITS", none, none.wiseChance(0), 5);
    }

    private static void promise34() {
        TagDraw two = Check.of("unit u 2;unit v 0;hunter a 0 guest;hunter b 0 guest;asks a u;asks b v;");
        CHECK.due("34: together(0, 1) of two", two.together(0, 1), ALL);
        CHECK.due("34: together(1, 0), with the other's CHOICES", two.together(1, 0), 0);
        CHECK.due("34: status()", two.status(), 0);
        two.guests(50);
        CHECK.due("34: together(0, 1) of two GUESTS for one", two.together(0, 1), 0);
        two.guests(100);
        two.quota(0, 1);
        CHECK.due("34: together(0, 1) of two for one TAG", two.together(0, 1), 0);
        two.choose(0, NONE, NONE, NONE);
        two.quota(0, 2);
        CHECK.due("34: together(0, 1) without CHOICES", two.together(0, 1), 0);
        CHECK.due("34: many(3) as ever", two.many(3), 2);
        // Seven APPLICANTS behind a PARTY, eight as it is, nine with one more HUNTER.
        TagDraw eight = Check.of("unit u 2;" + Check.hunters(9) + "party p ha hb;asks hc u;");
        CHECK.due("34: together(2, 3) of eight, one a PARTY", eight.together(2, 3), 999_999_997_920L);
        CHECK.due("34: together(2, 8) of eight, the last", eight.together(2, 8), 999_999_997_920L);
        eight.split(0);
        CHECK.refused("34: together(2, 3) of nine", eight, eight.together(2, 3), 3);
        // All CHOICES of the first one, whichever of the two has the lower number.
        TagDraw third = Check.of("unit u 0;unit v 0;unit w 2;hunter a 0;hunter b 0;hunter c 0;asks b u v w;asks c u;");
        CHECK.due("34: together(1, 0) by the third CHOICE", third.together(1, 0), ALL);
        CHECK.due("34: together(1, 2) by the third CHOICE", third.together(1, 2), ALL);
        CHECK.due("34: together(0, 1) without CHOICES", third.together(0, 1), 0);
        CHECK.due("34: together(2, 1) by the other's only CHOICE", third.together(2, 1), 0);
    }

    private static void promise35() {
        TagDraw seven = Check.of("unit u 4;" + Check.hunters(7) + "party p ha hc he hg;asks p u;");
        CHECK.due("35: apart(0) into seven", seven.apart(0), 999_999_997_920L);
        seven.quota(0, 3);
        CHECK.due("35: apart(0) of four for three TAGS", seven.apart(0), 0);
        CHECK.due("35: status()", seven.status(), 0);
        TagDraw eight = Check.of("unit u 4;" + Check.hunters(8) + "party p ha hc he hg;asks p u;");
        CHECK.due("24: chance(4, 0) of five APPLICANTS", eight.chance(4, 0), 999_999_999_960L);
        CHECK.refused("35: apart(0) into eight", eight, eight.apart(0), 3);
        TagDraw none = Check.of("unit u 4;hunter a 0;hunter b 0;party p a b;");
        CHECK.due("35: apart(0) without CHOICES", none.apart(0), 0);
        CHECK.due("35: status()", none.status(), 0);
        CHECK.due("35: many(2) as ever", none.many(2), 1);
        // Of two PARTIES: the last one, and the first one; the other one stays a PARTY.
        TagDraw two = Check.of("unit u 2;unit v 1;hunter a 0;hunter b 0;hunter c 0;hunter d 0;party p a b;party q c d;"
            + "asks p v;asks q u;");
        CHECK.due("35: apart(0) for one TAG", two.apart(0), 0);
        CHECK.due("35: apart(1) for two TAGS", two.apart(1), 999_999_999_996L);
    }

    private static void promise36() {
        TagDraw x = Check.of("unit u 1;hunter a 0;hunter b 0;asks a u;asks b u;");
        CHECK.due("36: likes(0) of all alike, the least", x.likes(0), 0);
        x.points(0, 1);
        CHECK.due("36: likes(0) of line and square alike", x.likes(0), 1);
        x.points(0, 2);
        CHECK.due("36: likes(0) by squares", x.likes(0), 2);
        CHECK.due("36: likes(1), plain", x.likes(1), 0);
        x.quota(0, 0);
        CHECK.due("36: likes(0) of none", x.likes(0), 0);
        CHECK.due("36: status() of none", x.status(), 0);
        // 3 POINTS in the midst of 0 and 20: line gives it 4 of 26, square 10 of 412, plain 1 of 3.
        TagDraw y = Check.of("unit u 1;hunter a 3;hunter b 0;hunter c 20;asks a u;asks b u;asks c u;");
        CHECK.due("36: likes(0) behind a greater one", y.likes(0), 0);
        CHECK.due("36: likes(2), the greater one", y.likes(2), 2);
    }

    private static void promises37And38() {
        TagDraw all = Check.of("unit u 10;" + TEN);
        TagDraw none = Check.of("unit u 0;" + TEN);
        for (int n : new int[] {1, 2, 29, 30}) {
            int[] most = {10 * n, 0, 0};
            int[] least = {0, 1023, n};
            for (int what = 0; what < 3; what++) {
                CHECK.due("37: years(0, " + n + ", " + what + ") of all", all.years(0, n, what), most[what]);
                CHECK.due("37: years(0, " + n + ", " + what + ") of none", none.years(0, n, what), least[what]);
            }
            for (int h = 0; h < 10; h += 9) {
                CHECK.due("38: often(0, " + n + ", " + h + ") of all", all.often(0, n, h), n);
                CHECK.due("38: often(0, " + n + ", " + h + ") of none", none.often(0, n, h), 0);
                CHECK.due("39: soonest(0, " + n + ", " + h + ") of all", all.soonest(0, n, h), 1);
                CHECK.refused("39: soonest(0, " + n + ", " + h + ") of none", none, none.soonest(0, n, h), 5);
            }
        }
        TagDraw empty = new TagDraw();
        for (int what = 0; what < 3; what++) {
            CHECK.due("37: years(LAST - 30, 30, " + what + ") of no list", empty.years(LAST_SEED - 30, 30, what), 0);
        }
        // None in the first YEARS, in the midst, or in the last ones: the longest row counts wherever it is.
        TagDraw two = Check.of("unit u 1;hunter a 0;hunter b 0;asks a u;asks b u;");
        int[] longest = {1, 2, 3, 3, 3, 3, 3, 3, 3, 4, 4};
        for (int n = 1; n <= longest.length; n++) {
            CHECK.due("37: years(0, " + n + ", 2)", two.years(0, n, 2), longest[n - 1]);
        }
    }

    /** By lot alone the YEARS are as SEEDS one behind the other, and so lucky() tells the first one. */
    private static void promise39() {
        int inTheLast = 0;
        int inNone = 0;
        for (int seed = 0; seed < 3000; seed += 30) {
            TagDraw x = Check.of("unit u 1;unit v 20;" + TEN.replace(" u;", " u v;"));
            for (int h = 0; h < 10; h++) {
                int year = x.lucky(seed, h) - seed + 1;
                if (x.status() != 0 || year > 30) {
                    CHECK.refused("39: soonest(" + seed + ", 30, " + h + ")", x, x.soonest(seed, 30, h), 5);
                    inNone++;
                    continue;
                }
                CHECK.due("39: soonest(" + seed + ", 30, " + h + ")", x.soonest(seed, 30, h), year);
                CHECK.due("39: soonest(" + seed + ", " + year + ", " + h + ")", x.soonest(seed, year, h), year);
                if (year > 1) {
                    CHECK.refused("39: soonest of one year less", x, x.soonest(seed, year - 1, h), 5);
                }
                inTheLast += year == 30 ? 1 : 0;
            }
        }
        CHECK.due("39: that some are in the last YEAR", Math.min(inTheLast, 1), 1);
        CHECK.due("39: that some are in none", Math.min(inNone, 1), 1);
    }

    private static void promise40() {
        int[] quotas = {0, 1, 9, 10, 20};
        for (int quota : quotas) {
            TagDraw x = Check.of("unit u " + quota + ";" + TEN);
            int winners = x.winners(LAST_SEED);
            CHECK.due("40: draw(LAST) of " + quota, x.draw(LAST_SEED), Math.min(quota, 10));
            CHECK.due("40: status()", x.status(), 0);
            CHECK.due("6: many(7)", x.many(7), 1);
            for (int h = 0; h < 10; h++) {
                boolean has = (winners >> h & 1) == 1;
                CHECK.due("7: hunter(" + h + ", 4) of " + quota, x.hunter(h, 4), has ? 0 : NONE);
                CHECK.due("40: hunter(" + h + ", 0) of " + quota, x.hunter(h, 0), has ? 0 : 1);
            }
        }
        // 20 at most, and no further: by 25 draw()s.
        TagDraw y = Check.of("unit u 0;hunter a 0;asks a u;");
        for (int i = 1; i <= 25; i++) {
            CHECK.due("40: draw(" + i + ") of none", y.draw(i), 0);
            CHECK.due("40: hunter(0, 0) behind " + i, y.hunter(0, 0), Math.min(i, 20));
            CHECK.due("6: many(7) behind " + i, y.many(7), i);
        }
    }

    /** Each number that may be, up and down again: what it was. */
    private static void promises41To46() {
        for (int n = 0; n <= 100; n++) {
            TagDraw x = Check.of("unit u 10;hunter a 10;law line;prefer 50;guests 50;");
            if (n != 50) {
                CHECK.due("45: prefer(" + n + ")", x.prefer(n), 50);
                CHECK.due("46: guests(" + n + ")", x.guests(n), 50);
            }
            CHECK.refused("45: prefer(" + n + ") again", x, x.prefer(n), 4);
            CHECK.refused("46: guests(" + n + ") again", x, x.guests(n), 4);
            CHECK.due("6: many(5)", x.many(5), n);
            CHECK.due("6: many(6)", x.many(6), n);
            CHECK.due("45: prefer(..) back", x.prefer(n == 0 ? 1 : 0), n);
            CHECK.due("46: guests(..) back", x.guests(n == 0 ? 1 : 0), n);
            if (n > 20) {
                continue;
            }
            if (n != 10) {
                CHECK.due("41: points(0, " + n + ")", x.points(0, n), 10);
                CHECK.due("42: quota(0, " + n + ")", x.quota(0, n), 10);
            }
            CHECK.refused("41: points(0, " + n + ") again", x, x.points(0, n), 4);
            CHECK.refused("42: quota(0, " + n + ") again", x, x.quota(0, n), 4);
            CHECK.due("7: hunter(0, 0)", x.hunter(0, 0), n);
            CHECK.due("8: unit(0, 0)", x.unit(0, 0), n);
            CHECK.due("9: TICKETS", x.applicant(0, 3), n + 1);
        }
        TagDraw x = Check.of("hunter a 2;");
        int[][] laws = {{1, 0, 3}, {2, 1, 5}, {0, 2, 1}, {2, 0, 5}, {1, 2, 3}, {0, 1, 1}};
        for (int[] law : laws) {
            CHECK.due("44: law(" + law[0] + ")", x.law(law[0]), law[1]);
            CHECK.due("6: many(4)", x.many(4), law[0]);
            CHECK.due("9: TICKETS", x.applicant(0, 3), law[2]);
            CHECK.refused("44: law(" + law[0] + ") again", x, x.law(law[0]), 4);
        }
    }

    private static void promise43() {
        TagDraw x = Check.of("unit u 1;unit v 1;unit w 1;unit x 1;unit y 1;hunter a 0;");
        int[][] rows = {{4, 3, 2, 0, 3}, {2, 3, 4, 3, 3}, {2, 3, NONE, 3, 2}, {3, 2, NONE, 2, 2}, {3, NONE, NONE, 2, 1},
            {NONE, NONE, NONE, 1, 0}, {0, NONE, NONE, 0, 1}, {0, 1, 2, 1, 3}, {NONE, NONE, NONE, 3, 0}, {4, 0, NONE, 0, 2}};
        for (int[] row : rows) {
            String call = "43: choose(0, " + row[0] + ", " + row[1] + ", " + row[2] + ")";
            CHECK.due(call, x.choose(0, row[0], row[1], row[2]), row[3]);
            CHECK.due("9: applicant(0, 4) behind " + call, x.applicant(0, 4), row[4]);
            for (int k = 0; k < 3; k++) {
                CHECK.due("10: choice(0, " + k + ") behind " + call, x.choice(0, k), row[k]);
                CHECK.due("10: status()", x.status(), row[k] == NONE ? 5 : 0);
            }
            CHECK.refused(call + " again", x, x.choose(0, row[0], row[1], row[2]), 4);
        }
    }

    private static void promise47() {
        TagDraw x = Check.of("unit u 1;unit v 1;unit w 1;unit x 1;" + Check.hunters(10)
            + "party p hj hi hh hg;party q ha hb;party r hc hd;party s he hf;asks p u v w;asks q v;asks r w;asks s x;");
        CHECK.refused("47: split(4) of four", x, x.split(4), 2);
        CHECK.due("47: split(3), the last one", x.split(3), 5);
        CHECK.due("9: applicant(2, 6) behind it", x.applicant(2, 6), 0);
        CHECK.due("9: applicant(4, 6) behind it", x.applicant(4, 6), 2);
        CHECK.due("10: choice(1, 0) of hf", x.choice(1, 0), 3);
        CHECK.refused("47: split(3) again", x, x.split(3), 2);
        CHECK.due("47: split(0), the first one", x.split(0), 8);
        int[] party = {0, 0, 1, 1, NONE, NONE, NONE, NONE, NONE, NONE};
        for (int h = 0; h < 10; h++) {
            CHECK.due("7: hunter(" + h + ", 2) behind two", x.hunter(h, 2), party[h]);
        }
        for (int k = 0; k < 3; k++) {
            CHECK.due("10: choice(5, " + k + ") of hj", x.choice(5, k), k);
        }
        CHECK.due("47: split(1)", x.split(1), 9);
        CHECK.due("47: split(0)", x.split(0), 10);
        CHECK.due("6: many(2) behind all", x.many(2), 0);
        CHECK.refused("47: split(0) of none", x, x.split(0), 2);
        CHECK.refused("47: split(-1) of none", x, x.split(-1), 2);
        int[] first = {1, 1, 2, 2, 3, 3, 0, 0, 0, 0};
        for (int h = 0; h < 10; h++) {
            CHECK.due("10: choice(" + h + ", 0) behind all", x.choice(h, 0), first[h]);
        }
        for (int left = 3; left >= 0; left--) {
            CHECK.due("48: undo()", x.undo(), left);
            CHECK.due("6: many(2)", x.many(2), 4 - left);
        }
        CHECK.due("9: applicant(0, 5)", x.applicant(0, 5), 960);
    }

    private static void promises49And50() {
        TagDraw x = new TagDraw();
        CHECK.refused("50: out(0) ahead of any", x, x.out(0), 5);
        CHECK.refused("50: out(MAX) ahead of any", x, x.out(Integer.MAX_VALUE), 5);
        CHECK.refused("50: out(-1) ahead of any", x, x.out(-1), 1);
        // The longest there is: ten APPLICANTS, all in the first round, of the fifth UNIT.
        TagDraw y = Check.of("unit a 0;unit b 0;unit c 0;unit d 0;unit u 10;" + TEN + "prefer 100;");
        StringBuilder text = new StringBuilder();
        for (int k = 0; k < 10; k++) {
            text.append(y.order(LAST_SEED, k)).append("=4!;");
        }
        CHECK.due("49: print(LAST) of ten", y.print(LAST_SEED), 50);
        for (int i = 0; i < 50; i++) {
            CHECK.due("50: out(" + i + ") of " + text, y.out(i), text.charAt(i));
        }
        CHECK.refused("50: out(50)", y, y.out(50), 5);
        CHECK.refused("50: out(MIN)", y, y.out(Integer.MIN_VALUE), 1);
        // A shorter one has no more of the longer one.
        y.prefer(0);
        y.quota(4, 0);
        CHECK.due("49: print(0) of ten with none", y.print(0), 40);
        CHECK.due("50: out(39)", y.out(39), ';');
        CHECK.due("50: out(38)", y.out(38), '-');
        CHECK.refused("50: out(40)", y, y.out(40), 5);
        Check.load(y, "");
        CHECK.due("50: out(39) behind load()", y.out(39), ';');
        CHECK.due("49: print(0) of nobody", y.print(0), 0);
        CHECK.refused("50: out(0) of nobody", y, y.out(0), 5);
    }
}
