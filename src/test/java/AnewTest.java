/**
 * A list has nothing of the one that was there ahead of it, however many UNITS, HUNTERS and APPLICANTS that had;
 * and an object is used for 512 calls.
 */
public final class AnewTest {
    private static final Check CHECK = new Check();
    private static final int NONE = TagDraw.NONE;
    private static final String MOST = "unit a 20;unit b 20;unit c 20;unit d 20;unit e 20;"
        + Check.hunters(10).replace(" 0;", " 20 guest;") + "party p ha hb;asks p e d c;asks hc e;asks hd e d;asks he a;"
        + "asks hf b;asks hg c;asks hh d;asks hi e;asks hj a b c;law square;prefer 100;";
    private static final String SEVEN = "unit a 2;unit b 2;unit c 2;unit d 2;unit e 2;" + Check.hunters(7).replace(" 0;", " 9;")
        + "asks ha e;asks hb e d;asks hc e;asks hd a;asks he b;asks hf a c d;asks hg d e a;law line;prefer 50;guests 0;";
    private static final String[] LISTS = {
        "",
        "unit u 1;",
        "hunter z 3;",
        "unit u 1;hunter z 3;asks z u;",
        "unit u 1;unit v 1;hunter y 1;hunter z 3;asks z u v;asks y u;law line;",
        "unit u 0;hunter y 1;hunter z 3;",
        "unit u 2;hunter x 0 guest;hunter y 1;hunter z 3;party p x z;asks p u;asks y u;prefer 50;guests 50;",
        "unit u 1;hunter v 1;hunter w 0;hunter x 0 guest;hunter y 1;party p v w;party q x y;asks q u;guests 30;",
    };

    public static void main(String[] args) {
        for (String list : LISTS) {
            behind(MOST, list);
            behind(SEVEN, list);
            behind(list, SEVEN.substring(0, SEVEN.indexOf("law")));
        }
        splitAndBack();
        fewerChoices();
        theLastCall();
        CHECK.end("AnewTest");
    }

    /** Has all rows filled, with few calls: a Sweep of both lists would be more than an object is used for. */
    private static void use(TagDraw x) {
        x.sure(0);
        x.spoils(5, 0);
        x.need(6, 1000);
        x.wise(0);
        x.together(6, 5);
        x.apart(0);
        x.likes(0);
        x.years(5, 9, 0);
        x.lucky(5, 0);
        x.print(5);
        x.draw(3);
        x.winners(5);
    }

    /** All that was worked out for the list ahead is not seen in the one behind it. */
    private static void behind(String ahead, String list) {
        TagDraw x = Check.of(ahead);
        use(x);
        Check.load(x, list);
        CHECK.due("4: what is left of \"" + ahead + "\" in \"" + list + "\"",
            Sweep.of(x).equals(Sweep.of(Check.of(list))) ? 0 : 1, 0);
    }

    /** More APPLICANTS and a YEAR, and then neither. */
    private static void splitAndBack() {
        for (String list : new String[] {LISTS[6], LISTS[7]}) {
            TagDraw x = Check.of(list);
            x.split(0);
            use(x);
            x.undo();
            x.undo();
            CHECK.due("48: what is left of split() in \"" + list + "\"",
                Sweep.of(x).equals(Sweep.of(Check.of(list))) ? 0 : 1, 0);
        }
    }

    /** Without CHOICES one has no UNIT, even next to one that is sure of the fifth. */
    private static void fewerChoices() {
        TagDraw x = Check.of("unit a 0;unit b 0;unit c 0;unit d 0;unit e 9;hunter h 0;hunter i 0;asks h e;asks i e d c;");
        CHECK.due("24: chance(1, 1)", x.chance(1, 1), 1_000_000_000_000L);
        x.choose(1, NONE, NONE, NONE);
        for (int what = 0; what < 3; what++) {
            CHECK.due("24: chance(1, " + what + ") without CHOICES", x.chance(1, what), 0);
        }
        for (int u = 0; u < 5; u++) {
            CHECK.due("25: at(1, " + u + ") without CHOICES", x.at(1, u), 0);
            CHECK.due("8: unit(" + u + ", 5)", x.unit(u, 5), u == 4 ? 1 : 0);
        }
        CHECK.due("17: winners(0)", x.winners(0), 1);
    }

    /** "An object is used for at most 512 calls": the last one of them is answered as the first one was. */
    private static void theLastCall() {
        TagDraw x = new TagDraw();
        Check.feed(x, "hunter a 0;");
        x.load(11);
        for (int call = 3; call <= 510; call++) {
            CHECK.due("41: points() as call " + call, x.points(0, call % 2), 1 - call % 2);
        }
        CHECK.due("48: undo() as call 511", x.undo(), 7);
        CHECK.due("7: hunter(0, 0) as call 512", x.hunter(0, 0), 1);
    }
}
