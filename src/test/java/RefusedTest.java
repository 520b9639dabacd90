import java.util.function.Supplier;

/**
 * Section 3, and the numbers in the promises' brackets: which STATUS a call has, that it gives NONE then,
 * and that it changes nothing else. The numbers ahead of the calls are the promises'.
 */
public final class RefusedTest {
    private static final Check CHECK = new Check();
    private static final int NONE = TagDraw.NONE;
    private static final int LAST_SEED = 999_999_999;

    /** A call on an object; and one with a number that is looked at. */
    private interface Call {
        long on(TagDraw x);
    }

    private interface NumberCall {
        long on(TagDraw x, int n);
    }

    private final Supplier<TagDraw> made;

    private RefusedTest(Supplier<TagDraw> made) {
        this.made = made;
    }

    public static void main(String[] args) {
        RefusedTest some = new RefusedTest(RefusedTest::some);
        some.whoThereIs();
        some.bySeed();
        some.bySeedAndNumber();
        some.byAllOrders();
        some.ifThingsWere();
        some.yearsOnPaper();
        some.acts();
        some.choose();
        some.texts();
        some.inThisOrder();
        some.inThisOrderForActs();
        new RefusedTest(TagDraw::new).nothingThere();
        new RefusedTest(RefusedTest::full).tooMany();
        new RefusedTest(RefusedTest::nine).tooManyWithAParty();
        new RefusedTest(RefusedTest::eight).oneMoreThanSeven();
        loadWithAFault();
        statusOfNone();
        CHECK.end("RefusedTest");
    }

    // ---- the objects

    /** Two UNITS and one without TAGS, four HUNTERS, two of them a PARTY; with a bit of all that can be there. */
    private static TagDraw some() {
        TagDraw x = Check.of("unit u 2;unit v 1;unit w 0;hunter a 4;hunter b 3;hunter c 0 guest;hunter d 20;"
            + "party p a b;asks p u v;asks c v u;law line;prefer 50;guests 50;");
        Check.load(x, "unit u 99;");
        x.draw(1);
        x.points(3, 7);
        x.print(3);
        Check.feed(x, "unit t 7;hunter z 1;asks z t;");
        return x;
    }

    /** As many as there may be of UNITS and HUNTERS. */
    private static TagDraw full() {
        return Check.of("unit u 5;unit v 1;unit w 2;unit x 3;unit y 0;" + Check.hunters(10)
            + "asks ha u v w;asks hb v;asks hj y;");
    }

    /** Nine APPLICANTS, one of them a PARTY. */
    private static TagDraw nine() {
        return Check.of("unit u 5;" + Check.hunters(10) + "party p ha hb;asks p u;asks hc u;");
    }

    private static TagDraw eight() {
        return Check.of("unit u 2;" + Check.hunters(8) + "asks ha u;");
    }

    // ---- the checks

    private void refused(int status, String name, Call call) {
        TagDraw x = made.get();
        CHECK.refused(name, x, call.on(x), status);
        CHECK.due("what " + name + " changes", Trace.of(x).equals(Trace.of(made.get())) ? 0 : 1, 0);
    }

    private void done(String name, long answer, Call call) {
        TagDraw x = made.get();
        CHECK.due(name, call.on(x), answer);
        CHECK.due("status() behind " + name, x.status(), 0);
    }

    /** From the first to the last one the number is not the reason of this STATUS; outside it is. */
    private void within(int first, int last, int status, String name, NumberCall call) {
        for (int n : new int[] {first, last}) {
            TagDraw x = made.get();
            call.on(x, n);
            CHECK.due(name + " with " + n + " is refused with " + status, x.status() == status ? 1 : 0, 0);
        }
        for (int n : new int[] {Integer.MIN_VALUE, first - 1, last + 1, Integer.MAX_VALUE}) {
            if (n < first || n > last) {
                refused(status, name + " with " + n, x -> call.on(x, n));
            }
        }
    }

    private void seeds(String name, NumberCall call) {
        within(0, LAST_SEED, 1, name, call);
    }

    private void hunters(String name, NumberCall call) {
        within(0, 3, 2, name, call);
    }

    private void units(String name, NumberCall call) {
        within(0, 2, 2, name, call);
    }

    private void applicants(String name, NumberCall call) {
        within(0, 2, 2, name, call);
    }

    // ---- each number by itself

    private void whoThereIs() {
        within(0, 10, 1, "6: many(n)", (x, n) -> x.many(n));
        within(0, 4, 1, "7: hunter(0, n)", (x, n) -> x.hunter(0, n));
        hunters("7: hunter(n, 0)", (x, n) -> x.hunter(n, 0));
        hunters("7: hunter(n, 4)", (x, n) -> x.hunter(n, 4));
        within(0, 5, 1, "8: unit(0, n)", (x, n) -> x.unit(0, n));
        units("8: unit(n, 0)", (x, n) -> x.unit(n, 0));
        units("8: unit(n, 5)", (x, n) -> x.unit(n, 5));
        within(0, 6, 1, "9: applicant(0, n)", (x, n) -> x.applicant(0, n));
        applicants("9: applicant(n, 0)", (x, n) -> x.applicant(n, 0));
        applicants("9: applicant(n, 6)", (x, n) -> x.applicant(n, 6));
        within(0, Integer.MAX_VALUE, 1, "10: choice(0, n)", (x, n) -> x.choice(0, n));
        within(Integer.MIN_VALUE, 1, 5, "10: choice(0, n)", (x, n) -> x.choice(0, n));
        applicants("10: choice(n, 0)", (x, n) -> x.choice(n, 0));
        refused(5, "10: choice(1, 0) without CHOICES", x -> x.choice(1, 0));
        within(0, 1, 1, "11: demand(0, n)", (x, n) -> x.demand(0, n));
        units("11: demand(n, 0)", (x, n) -> x.demand(n, 0));
        refused(5, "11: demand(2, 0) without TAGS", x -> x.demand(2, 0));
        refused(5, "11: demand(2, 1) without TAGS", x -> x.demand(2, 1));
        within(0, 1, 1, "12: share(0, n)", (x, n) -> x.share(0, n));
        applicants("12: share(n, 0)", (x, n) -> x.share(n, 0));
    }

    private void bySeed() {
        seeds("13: order(n, 0)", (x, n) -> x.order(n, 0));
        within(0, Integer.MAX_VALUE, 1, "13: order(0, n)", (x, n) -> x.order(0, n));
        within(Integer.MIN_VALUE, 2, 5, "13: order(0, n)", (x, n) -> x.order(0, Math.max(n, 0)));
        seeds("14: drawn(n, 0)", (x, n) -> x.drawn(n, 0));
        applicants("14: drawn(0, n)", (x, n) -> x.drawn(0, n));
        refused(5, "14: drawn(0, 1) without CHOICES", x -> x.drawn(0, 1));
        seeds("15: round(n, 0)", (x, n) -> x.round(n, 0));
        applicants("15: round(0, n)", (x, n) -> x.round(0, n));
        refused(5, "15: round(0, 1) without CHOICES", x -> x.round(0, 1));
        seeds("16: left(n, 0, 0)", (x, n) -> x.left(n, 0, 0));
        within(0, 3, 1, "16: left(0, 0, n)", (x, n) -> x.left(0, 0, n));
        units("16: left(0, n, 0)", (x, n) -> x.left(0, n, 0));
        units("16: left(0, n, 3)", (x, n) -> x.left(0, n, 3));
        refused(5, "16: left(0, 2, 3) that nobody has", x -> x.left(0, 2, 3));
        done("16: left(0, 2, 2) that nobody has", 0, x -> x.left(0, 2, 2));
        seeds("17: winners(n)", (x, n) -> x.winners(n));
        seeds("20: envies(n, 0)", (x, n) -> x.envies(n, 0));
        applicants("20: envies(0, n)", (x, n) -> x.envies(0, n));
        seeds("21: spoils(n, 0)", (x, n) -> x.spoils(n, 0));
        applicants("21: spoils(0, n)", (x, n) -> x.spoils(0, n));
        seeds("22: behind(n, 0)", (x, n) -> x.behind(n, 0));
        hunters("22: behind(0, n)", (x, n) -> x.behind(0, n));
        seeds("49: print(n)", (x, n) -> x.print(n));
    }

    private void bySeedAndNumber() {
        seeds("18: waits(n, 0, NONE)", (x, n) -> x.waits(n, 0, NONE));
        within(NONE, Integer.MAX_VALUE, 1, "18: waits(0, 0, n)", (x, n) -> x.waits(0, 0, n));
        units("18: waits(0, n, 0)", (x, n) -> x.waits(0, n, 0));
        units("18: waits(0, n, NONE)", (x, n) -> x.waits(0, n, NONE));
        done("18: waits(0, 2, NONE) for which nobody waits", 0, x -> x.waits(0, 2, NONE));
        refused(5, "18: waits(0, 2, 0) for which nobody waits", x -> x.waits(0, 2, 0));
        refused(5, "18: waits(0, 2, MAX)", x -> x.waits(0, 2, Integer.MAX_VALUE));
        seeds("19: next(n, 0, 1)", (x, n) -> x.next(n, 0, 1));
        within(0, 20, 1, "19: next(0, 0, n)", (x, n) -> x.next(0, 0, n));
        units("19: next(0, n, 1)", (x, n) -> x.next(0, n, 1));
        refused(5, "19: next(0, 2, 20) for which nobody waits", x -> x.next(0, 2, 20));
        within(0, 999_999_949, 1, "23: lucky(n, 0)", (x, n) -> x.lucky(n, 0));
        applicants("23: lucky(0, n)", (x, n) -> x.lucky(0, n));
        refused(5, "23: lucky(0, 1) without CHOICES", x -> x.lucky(0, 1));
        within(0, Integer.MAX_VALUE, 1, "50: out(n)", (x, n) -> x.out(n));
        within(Integer.MIN_VALUE, 11, 5, "50: out(n)", (x, n) -> x.out(Math.max(n, 0)));
    }

    private void byAllOrders() {
        within(0, 2, 1, "24: chance(0, n)", (x, n) -> x.chance(0, n));
        applicants("24: chance(n, 0)", (x, n) -> x.chance(n, 0));
        applicants("24: chance(n, 2)", (x, n) -> x.chance(n, 2));
        applicants("25: at(n, 0)", (x, n) -> x.at(n, 0));
        units("25: at(0, n)", (x, n) -> x.at(0, n));
        applicants("26: both(n, 1)", (x, n) -> x.both(n, 1));
        applicants("26: both(1, n)", (x, n) -> x.both(1, n));
        for (int a = 0; a < 3; a++) {
            int same = a;
            refused(4, "26: both of " + a + " and itself", x -> x.both(same, same));
        }
        within(0, 1, 1, "27: sure(n)", (x, n) -> x.sure(n));
        units("28: mean(n)", (x, n) -> x.mean(n));
        within(0, 1, 1, "29: given(n)", (x, n) -> x.given(n));
    }

    private void ifThingsWere() {
        within(0, 1000, 1, "31: need(2, n)", (x, n) -> x.need(2, n));
        hunters("31: need(n, 0)", (x, n) -> x.need(n, 0));
        refused(7, "31: need(0, 0) in a PARTY", x -> x.need(0, 0));
        refused(7, "31: need(1, 1000) in a PARTY", x -> x.need(1, 1000));
        refused(5, "31: need(3, 1) without CHOICES", x -> x.need(3, 1));
        done("31: need(3, 0) without CHOICES", 0, x -> x.need(3, 0));
        applicants("32: wise(n)", (x, n) -> x.wise(n));
        applicants("33: wiseChance(n)", (x, n) -> x.wiseChance(n));
        hunters("34: together(n, 2)", (x, n) -> x.together(n, 2));
        hunters("34: together(2, n)", (x, n) -> x.together(2, n));
        refused(4, "34: together(2, 2)", x -> x.together(2, 2));
        refused(7, "34: together(0, 2), the first one in a PARTY", x -> x.together(0, 2));
        refused(7, "34: together(2, 1), the other one in a PARTY", x -> x.together(2, 1));
        refused(7, "34: together(0, 1), both in one PARTY", x -> x.together(0, 1));
        within(0, 0, 2, "35: apart(n)", (x, n) -> x.apart(n));
        applicants("36: likes(n)", (x, n) -> x.likes(n));
    }

    private void yearsOnPaper() {
        within(1, 30, 1, "37: years(0, n, 0)", (x, n) -> x.years(0, n, 0));
        within(0, 2, 1, "37: years(0, 1, n)", (x, n) -> x.years(0, 1, n));
        within(0, LAST_SEED - 1, 1, "37: years(n, 1, 0)", (x, n) -> x.years(n, 1, 0));
        within(0, LAST_SEED - 30, 1, "37: years(n, 30, 0)", (x, n) -> x.years(n, 30, 0));
        within(1, 29, 1, "37: years(LAST - 29, n, 0)", (x, n) -> x.years(LAST_SEED - 29, n, 0));
        refused(1, "37: years(MAX, MAX, 0)", x -> x.years(Integer.MAX_VALUE, Integer.MAX_VALUE, 0));
        refused(1, "37: years(0, MIN, 0)", x -> x.years(0, Integer.MIN_VALUE, 0));
        within(1, 30, 1, "38: often(0, n, 0)", (x, n) -> x.often(0, n, 0));
        hunters("38: often(0, 1, n)", (x, n) -> x.often(0, 1, n));
        within(0, LAST_SEED - 1, 1, "38: often(n, 1, 0)", (x, n) -> x.often(n, 1, 0));
        within(0, LAST_SEED - 30, 1, "38: often(n, 30, 0)", (x, n) -> x.often(n, 30, 0));
        within(1, 30, 1, "39: soonest(0, n, 0)", (x, n) -> x.soonest(0, n, 0));
        hunters("39: soonest(0, 1, n)", (x, n) -> x.soonest(0, 1, n));
        within(0, LAST_SEED - 1, 1, "39: soonest(n, 1, 0)", (x, n) -> x.soonest(n, 1, 0));
        within(0, LAST_SEED - 30, 1, "39: soonest(n, 30, 0)", (x, n) -> x.soonest(n, 30, 0));
        refused(5, "39: soonest(0, 30, 3) without CHOICES", x -> x.soonest(0, 30, 3));
    }

    private void acts() {
        seeds("40: draw(n)", (x, n) -> x.draw(n));
        within(0, 20, 1, "41: points(2, n)", (x, n) -> x.points(2, n));
        hunters("41: points(n, 9)", (x, n) -> x.points(n, 9));
        refused(4, "41: points(3, 7) that are so", x -> x.points(3, 7));
        within(0, 20, 1, "42: quota(0, n)", (x, n) -> x.quota(0, n));
        units("42: quota(n, 9)", (x, n) -> x.quota(n, 9));
        refused(4, "42: quota(2, 0) that is so", x -> x.quota(2, 0));
        within(0, 2, 1, "44: law(n)", (x, n) -> x.law(n));
        refused(4, "44: law(1) that is so", x -> x.law(1));
        within(0, 100, 1, "45: prefer(n)", (x, n) -> x.prefer(n));
        refused(4, "45: prefer(50) that is so", x -> x.prefer(50));
        within(0, 100, 1, "46: guests(n)", (x, n) -> x.guests(n));
        refused(4, "46: guests(50) that is so", x -> x.guests(50));
        within(0, 0, 2, "47: split(n)", (x, n) -> x.split(n));
    }

    private void choose() {
        applicants("43: choose(n, 2, NONE, NONE)", (x, n) -> x.choose(n, 2, NONE, NONE));
        within(NONE, 2, 2, "43: choose(0, n, NONE, NONE)", (x, n) -> x.choose(0, n, NONE, NONE));
        within(NONE, 2, 2, "43: choose(0, 1, n, NONE)", (x, n) -> x.choose(0, 1, n, NONE));
        within(NONE, 2, 2, "43: choose(0, 0, 1, n)", (x, n) -> x.choose(0, 0, 1, n));
        refused(1, "43: choose(0, NONE, 1, NONE)", x -> x.choose(0, NONE, 1, NONE));
        refused(1, "43: choose(0, NONE, 1, 0)", x -> x.choose(0, NONE, 1, 0));
        refused(1, "43: choose(0, NONE, NONE, 0)", x -> x.choose(0, NONE, NONE, 0));
        refused(1, "43: choose(0, 1, NONE, 0)", x -> x.choose(0, 1, NONE, 0));
        refused(1, "43: choose(0, 1, 1, NONE)", x -> x.choose(0, 1, 1, NONE));
        refused(1, "43: choose(0, 0, 0, 1)", x -> x.choose(0, 0, 0, 1));
        refused(1, "43: choose(0, 0, 1, 0)", x -> x.choose(0, 0, 1, 0));
        refused(1, "43: choose(0, 0, 1, 1)", x -> x.choose(0, 0, 1, 1));
        refused(4, "43: choose(0, 1, 0, NONE) that are so", x -> x.choose(0, 1, 0, NONE));
        refused(4, "43: choose(1, NONE, NONE, NONE) that are so", x -> x.choose(1, NONE, NONE, NONE));
        refused(4, "43: choose(2, 0, 1, NONE) that are so", x -> x.choose(2, 0, 1, NONE));
        done("43: choose(0, 0, 1, NONE) in another order", 2, x -> x.choose(0, 0, 1, NONE));
        done("43: choose(0, 1, NONE, NONE), one less", 2, x -> x.choose(0, 1, NONE, NONE));
        done("43: choose(0, 1, 0, 2), one more", 2, x -> x.choose(0, 1, 0, 2));
        done("43: choose(1, 0, NONE, NONE), the first one", 0, x -> x.choose(1, 0, NONE, NONE));
    }

    private void texts() {
        refused(1, "4: load(-1)", x -> x.load(-1));
        refused(1, "4: load(41) of 40", x -> x.load(41));
        refused(1, "4: load(MIN)", x -> x.load(Integer.MIN_VALUE));
        refused(1, "4: load(MAX)", x -> x.load(Integer.MAX_VALUE));
        done("4: load(40) of 40", 1, x -> x.load(40));
        done("4: load(0) of 40", 0, x -> x.load(0));
    }

    // ---- of several STATUS the first

    private void inThisOrder() {
        refused(1, "7: hunter(9, 5)", x -> x.hunter(9, 5));
        refused(1, "8: unit(9, 6)", x -> x.unit(9, 6));
        refused(1, "9: applicant(9, 7)", x -> x.applicant(9, 7));
        refused(1, "10: choice(9, -1)", x -> x.choice(9, -1));
        refused(2, "10: choice(9, 9)", x -> x.choice(9, 9));
        refused(1, "11: demand(9, 2)", x -> x.demand(9, 2));
        refused(1, "11: demand(2, 2) without TAGS", x -> x.demand(2, 2));
        refused(1, "12: share(9, 2)", x -> x.share(9, 2));
        refused(1, "13: order(-1, 9)", x -> x.order(-1, 9));
        refused(1, "14: drawn(-1, 9)", x -> x.drawn(-1, 9));
        refused(1, "14: drawn(-1, 1) without CHOICES", x -> x.drawn(-1, 1));
        refused(1, "15: round(-1, 9)", x -> x.round(-1, 9));
        refused(1, "16: left(-1, 9, 3)", x -> x.left(-1, 9, 3));
        refused(1, "16: left(0, 9, 4)", x -> x.left(0, 9, 4));
        refused(1, "16: left(-1, 2, 3) that nobody has", x -> x.left(-1, 2, 3));
        refused(1, "18: waits(0, 9, -2)", x -> x.waits(0, 9, -2));
        refused(1, "18: waits(-1, 9, 9)", x -> x.waits(-1, 9, 9));
        refused(2, "18: waits(0, 9, 9)", x -> x.waits(0, 9, 9));
        refused(1, "19: next(0, 9, 21)", x -> x.next(0, 9, 21));
        refused(1, "19: next(-1, 2, 1)", x -> x.next(-1, 2, 1));
        refused(1, "20: envies(-1, 9)", x -> x.envies(-1, 9));
        refused(1, "21: spoils(-1, 9)", x -> x.spoils(-1, 9));
        refused(1, "22: behind(-1, 9)", x -> x.behind(-1, 9));
        refused(1, "23: lucky(999999950, 9)", x -> x.lucky(999_999_950, 9));
        refused(1, "24: chance(9, 3)", x -> x.chance(9, 3));
        refused(2, "26: both(9, 9)", x -> x.both(9, 9));
        refused(1, "31: need(9, 1001)", x -> x.need(9, 1001));
        refused(1, "31: need(0, 1001) in a PARTY", x -> x.need(0, 1001));
        refused(2, "34: together(9, 9)", x -> x.together(9, 9));
        refused(2, "34: together(0, 9) in a PARTY", x -> x.together(0, 9));
        refused(4, "34: together(0, 0) in a PARTY", x -> x.together(0, 0));
        refused(1, "38: often(0, 31, 9)", x -> x.often(0, 31, 9));
        refused(1, "39: soonest(LAST, 1, 9)", x -> x.soonest(LAST_SEED, 1, 9));
    }

    private void inThisOrderForActs() {
        refused(1, "41: points(9, 21)", x -> x.points(9, 21));
        refused(1, "42: quota(9, 21)", x -> x.quota(9, 21));
        refused(1, "43: choose(9, 0, 1, 1)", x -> x.choose(9, 0, 1, 1));
        refused(1, "43: choose(9, NONE, 1, NONE)", x -> x.choose(9, NONE, 1, NONE));
        refused(1, "43: choose(0, 9, NONE, 1)", x -> x.choose(0, 9, NONE, 1));
        refused(2, "43: choose(9, NONE, NONE, NONE)", x -> x.choose(9, NONE, NONE, NONE));
    }

    // ---- nothing there, and as many as there may be

    private void nothingThere() {
        for (int n : new int[] {-1, 0, 1}) {
            refused(2, "7: hunter(" + n + ", 0) of none", x -> x.hunter(n, 0));
            refused(2, "8: unit(" + n + ", 0) of none", x -> x.unit(n, 0));
            refused(2, "9: applicant(" + n + ", 0) of none", x -> x.applicant(n, 0));
            refused(2, "35: apart(" + n + ") of none", x -> x.apart(n));
            refused(2, "47: split(" + n + ") of none", x -> x.split(n));
        }
        refused(2, "10: choice(0, 0) of none", x -> x.choice(0, 0));
        refused(2, "11: demand(0, 0) of none", x -> x.demand(0, 0));
        refused(2, "12: share(0, 0) of none", x -> x.share(0, 0));
        refused(5, "13: order(0, 0) of none", x -> x.order(0, 0));
        refused(2, "14: drawn(0, 0) of none", x -> x.drawn(0, 0));
        refused(2, "15: round(0, 0) of none", x -> x.round(0, 0));
        refused(2, "16: left(0, 0, 0) of none", x -> x.left(0, 0, 0));
        refused(2, "18: waits(0, 0, NONE) of none", x -> x.waits(0, 0, NONE));
        refused(2, "19: next(0, 0, 1) of none", x -> x.next(0, 0, 1));
        refused(2, "20: envies(0, 0) of none", x -> x.envies(0, 0));
        refused(2, "21: spoils(0, 0) of none", x -> x.spoils(0, 0));
        refused(2, "22: behind(0, 0) of none", x -> x.behind(0, 0));
        refused(2, "23: lucky(0, 0) of none", x -> x.lucky(0, 0));
        refused(2, "24: chance(0, 0) of none", x -> x.chance(0, 0));
        refused(2, "25: at(0, 0) of none", x -> x.at(0, 0));
        refused(2, "26: both(0, 0) of none", x -> x.both(0, 0));
        refused(2, "28: mean(0) of none", x -> x.mean(0));
        refused(2, "31: need(0, 0) of none", x -> x.need(0, 0));
        refused(2, "32: wise(0) of none", x -> x.wise(0));
        refused(2, "33: wiseChance(0) of none", x -> x.wiseChance(0));
        refused(2, "34: together(0, 1) of none", x -> x.together(0, 1));
        refused(2, "36: likes(0) of none", x -> x.likes(0));
        refused(2, "38: often(0, 1, 0) of none", x -> x.often(0, 1, 0));
        refused(2, "39: soonest(0, 1, 0) of none", x -> x.soonest(0, 1, 0));
        refused(2, "41: points(0, 0) of none", x -> x.points(0, 0));
        refused(2, "42: quota(0, 0) of none", x -> x.quota(0, 0));
        refused(2, "43: choose(0, NONE, NONE, NONE) of none", x -> x.choose(0, NONE, NONE, NONE));
        refused(4, "44: law(0) of a new object", x -> x.law(0));
        refused(4, "45: prefer(0) of a new object", x -> x.prefer(0));
        refused(4, "46: guests(100) of a new object", x -> x.guests(100));
        refused(5, "48: undo() of a new object", x -> x.undo());
        refused(5, "50: out(0) of a new object", x -> x.out(0));
        refused(1, "50: out(-1) of a new object", x -> x.out(-1));
        refused(1, "4: load(1) of no tape", x -> x.load(1));
    }

    /** Ten APPLICANTS are too many for all ORDERS; what is wrong by 1, 2 or 4 is told ahead of it. */
    private void tooMany() {
        within(0, 9, 2, "7: hunter(n, 0) of ten", (x, n) -> x.hunter(n, 0));
        within(0, 4, 2, "8: unit(n, 0) of five", (x, n) -> x.unit(n, 0));
        within(0, 9, 2, "9: applicant(n, 0) of ten", (x, n) -> x.applicant(n, 0));
        within(Integer.MIN_VALUE, 2, 5, "10: choice(0, n) of three", (x, n) -> x.choice(0, Math.max(n, 0)));
        within(Integer.MIN_VALUE, 9, 5, "13: order(0, n) of ten", (x, n) -> x.order(0, Math.max(n, 0)));
        refused(1, "24: chance(9, 3) of ten", x -> x.chance(9, 3));
        refused(2, "24: chance(10, 0) of ten", x -> x.chance(10, 0));
        refused(3, "24: chance(9, 2) of ten", x -> x.chance(9, 2));
        refused(2, "25: at(10, 0) of ten", x -> x.at(10, 0));
        refused(2, "25: at(0, 5) of ten", x -> x.at(0, 5));
        refused(3, "25: at(9, 4) of ten", x -> x.at(9, 4));
        refused(2, "26: both(9, 10) of ten", x -> x.both(9, 10));
        refused(4, "26: both(9, 9) of ten", x -> x.both(9, 9));
        refused(3, "26: both(8, 9) of ten", x -> x.both(8, 9));
        refused(1, "27: sure(2) of ten", x -> x.sure(2));
        refused(3, "27: sure(0) of ten", x -> x.sure(0));
        refused(3, "27: sure(1) of ten", x -> x.sure(1));
        refused(2, "28: mean(5) of ten", x -> x.mean(5));
        refused(3, "28: mean(0) of ten", x -> x.mean(0));
        refused(1, "29: given(-1) of ten", x -> x.given(-1));
        refused(3, "29: given(0) of ten", x -> x.given(0));
        refused(3, "29: given(1) of ten", x -> x.given(1));
        refused(3, "30: ends() of ten", x -> x.ends());
        refused(1, "31: need(9, 1001) of ten", x -> x.need(9, 1001));
        refused(2, "31: need(10, 0) of ten", x -> x.need(10, 0));
        refused(3, "31: need(9, 0) of ten", x -> x.need(9, 0));
        refused(2, "32: wise(10) of ten", x -> x.wise(10));
        refused(3, "32: wise(9) of ten", x -> x.wise(9));
        refused(2, "33: wiseChance(10) of ten", x -> x.wiseChance(10));
        refused(3, "33: wiseChance(9) of ten", x -> x.wiseChance(9));
        refused(2, "34: together(9, 10) of ten", x -> x.together(9, 10));
        refused(4, "34: together(9, 9) of ten", x -> x.together(9, 9));
        refused(3, "34: together(8, 9) of ten", x -> x.together(8, 9));
        refused(2, "36: likes(10) of ten", x -> x.likes(10));
        refused(3, "36: likes(9) of ten", x -> x.likes(9));
    }

    private void tooManyWithAParty() {
        refused(7, "31: need(0, 0) of nine", x -> x.need(0, 0));
        refused(3, "31: need(2, 0) of nine", x -> x.need(2, 0));
        refused(7, "34: together(2, 0) of nine", x -> x.together(2, 0));
        refused(3, "34: together(2, 3) of nine", x -> x.together(2, 3));
        refused(2, "35: apart(1) of nine", x -> x.apart(1));
        refused(3, "35: apart(0) of nine", x -> x.apart(0));
    }

    /** One more than seven; together() makes one less of them, and so is answered. */
    private void oneMoreThanSeven() {
        refused(3, "24: chance(0, 0) of eight", x -> x.chance(0, 0));
        refused(3, "25: at(0, 0) of eight", x -> x.at(0, 0));
        refused(3, "26: both(0, 1) of eight", x -> x.both(0, 1));
        refused(3, "27: sure(0) of eight", x -> x.sure(0));
        refused(3, "28: mean(0) of eight", x -> x.mean(0));
        refused(3, "29: given(0) of eight", x -> x.given(0));
        refused(3, "30: ends() of eight", x -> x.ends());
        refused(3, "31: need(0, 0) of eight", x -> x.need(0, 0));
        refused(3, "32: wise(0) of eight", x -> x.wise(0));
        refused(3, "33: wiseChance(0) of eight", x -> x.wiseChance(0));
        refused(3, "36: likes(0) of eight", x -> x.likes(0));
        done("34: together(0, 1) of eight", 999_999_997_920L, x -> x.together(0, 1));
    }

    // ---- load() with 9, and the calls without a STATUS

    /** The tape is empty then, and fault() tells of it; all else is as it was. */
    private static void loadWithAFault() {
        TagDraw x = some();
        CHECK.refused("4: load(8)", x, x.load(8), 9);
        CHECK.due("5: fault(0)", x.fault(0), 2);
        CHECK.due("5: fault(1)", x.fault(1), 8);
        CHECK.refused("4: load(1) of an empty tape", x, x.load(1), 1);
        CHECK.due("5: fault(1) behind STATUS 1", x.fault(1), 8);
        CHECK.due("3: feed() on an empty tape", x.feed(0, 0, 0, 0, 0), 20);
        CHECK.due("4: what load(8) changes beside", upToTheTape(x).equals(upToTheTape(some())) ? 0 : 1, 0);
    }

    private static String upToTheTape(TagDraw x) {
        String told = Trace.of(x);
        return told.substring(0, told.indexOf("\nfault "));
    }

    private static void statusOfNone() {
        TagDraw x = some();
        x.split(9);
        x.fault(9);
        CHECK.due("3: status() behind fault()", x.status(), 2);
        x.feed(0, 0, 0, 0, 0);
        CHECK.due("3: status() behind feed()", x.status(), 2);
        CHECK.due("3: status() behind status()", x.status(), 2);
        for (int i = 0; i < 33; i++) {
            x.feed(0, 0, 0, 0, 0);
        }
        CHECK.due("3: feed() of one too many", x.feed(0, 0, 0, 0, 0), NONE);
        CHECK.due("3: status() behind a feed() that has no room", x.status(), 2);
        x.many(0);
        CHECK.due("3: status() behind many()", x.status(), 0);
    }
}
