/** Promises 1 to 5: a new object, STATUS, the tape, and what a TEXT is. */
public final class TextTest {
    private static final Check CHECK = new Check();

    public static void main(String[] args) {
        newObject();
        statusIsOfTheLatestCallThatHasOne();
        tape();
        loadTakesTheFirstBytes();
        loadEndsInsideATextToo();
        loadWithAFaultKeepsTheList();
        texts();
        faultsOfTokens();
        faultsOfPlaces();
        faultsOfNumbers();
        faultsOfNames();
        theFirstFaultAlongTheText();
        CHECK.end("TextTest");
    }

    private static void newObject() {
        TagDraw x = new TagDraw();
        CHECK.due("1: status()", x.status(), 0);
        CHECK.due("1: many(0)", x.many(0), 0);
        CHECK.due("1: many(1)", x.many(1), 0);
        CHECK.due("1: many(2)", x.many(2), 0);
        CHECK.due("1: many(3)", x.many(3), 0);
        CHECK.due("1: many(4)", x.many(4), 0);
        CHECK.due("1: many(5)", x.many(5), 0);
        CHECK.due("1: many(6)", x.many(6), 100);
        CHECK.due("1: load(0)", x.load(0), 0);
        CHECK.refused("1: load(1)", x, x.load(1), 1);
        CHECK.refused("1: wise(0)", x, x.wise(0), 2);
        CHECK.due("1: print(0)", x.print(0), 0);
        CHECK.refused("1: out(0)", x, x.out(0), 5);
        CHECK.due("1: draw(0)", x.draw(0), 0);
        CHECK.due("1: undo()", x.undo(), 0);
    }

    private static void statusIsOfTheLatestCallThatHasOne() {
        TagDraw x = new TagDraw();
        x.law(3);
        CHECK.due("2: status()", x.status(), 1);
        CHECK.due("2: status() again", x.status(), 1);
        x.feed(0, 0, 0, 0, 0);
        CHECK.due("2: status() behind feed()", x.status(), 1);
        x.fault(0);
        CHECK.due("2: status() behind fault()", x.status(), 1);
        x.law(1);
        CHECK.due("2: status() behind law()", x.status(), 0);
    }

    private static void tape() {
        TagDraw x = new TagDraw();
        for (int i = 1; i <= 35; i++) {
            CHECK.due("3: feed() no. " + i, x.feed(0x20202020, 0x20202020, 0x20202020, 0x20202020, 0x20202020), 20 * i);
        }
        CHECK.due("3: feed() no. 36", x.feed(0, 0, 0, 0, 0), TagDraw.NONE);
        CHECK.due("3: feed() no. 37", x.feed(0, 0, 0, 0, 0), TagDraw.NONE);
        CHECK.refused("3: load(701)", x, x.load(701), 1);
        CHECK.due("3: load(700)", x.load(700), 0);
        CHECK.due("3: feed() on an empty tape", x.feed(0, 0, 0, 0, 0), 20);
        TagDraw y = new TagDraw();
        // A byte above 127 is no blank and no TOKEN, and the highest byte of an int stands first.
        y.feed(0x20202020, 0x0a0a20e9, 0, 0, 0);
        CHECK.refused("3: load(8)", y, y.load(8), 9);
        CHECK.due("3: fault(0)", y.fault(0), 1);
        CHECK.due("3: fault(1)", y.fault(1), 7);
    }

    private static void loadTakesTheFirstBytes() {
        TagDraw x = new TagDraw();
        Check.feed(x, "hunter a 1;hunter b 2;oops");
        CHECK.refused("4: load(-1)", x, x.load(-1), 1);
        CHECK.refused("4: load(41)", x, x.load(41), 1);
        CHECK.due("4: fault(0) ahead of any", x.fault(0), TagDraw.NONE);
        CHECK.due("4: load(22)", x.load(22), 2);
        CHECK.due("4: status()", x.status(), 0);
        CHECK.due("5: fault(0) without one", x.fault(0), 0);
        CHECK.due("5: fault(1) without one", x.fault(1), TagDraw.NONE);
        CHECK.refused("4: load(1) on an empty tape", x, x.load(1), 1);
        CHECK.due("4: many(1)", x.many(1), 2);
        CHECK.due("5: fault(0) behind STATUS 1", x.fault(0), 0);
        Check.feed(x, "hunter a 1;");
        CHECK.due("4: load(11)", x.load(11), 1);
        CHECK.due("4: many(1) anew", x.many(1), 1);
        CHECK.due("4: load(0)", x.load(0), 0);
        CHECK.due("4: many(1) of no text", x.many(1), 0);
    }

    /** Bytes behind the first n are not looked at, even where a TOKEN would go on. */
    private static void loadEndsInsideATextToo() {
        TagDraw x = new TagDraw();
        String[] texts = {"prefer 100;", "hunter ab 1;", "unit u 1 ;"};
        int[] ends = {8, 8, 8};
        for (int i = 0; i < 3; i++) {
            Check.feed(x, texts[i]);
            CHECK.refused("4: load(" + ends[i] + ") of " + texts[i], x, x.load(ends[i]), 9);
            CHECK.due("5: fault(0)", x.fault(0), 2);
            CHECK.due("5: fault(1)", x.fault(1), ends[i]);
        }
        Check.feed(x, "unit u 1;unit");
        CHECK.due("4: load(9)", x.load(9), 0);
        CHECK.due("4: many(0)", x.many(0), 1);
    }

    private static void loadWithAFaultKeepsTheList() {
        TagDraw x = Check.of("unit u 2;hunter a 1;asks a u;prefer 50;guests 40;law line;");
        x.law(2);
        x.print(0);
        Check.feed(x, "hunter a 1;hunter b 2;x");
        CHECK.refused("4: load(23)", x, x.load(23), 9);
        CHECK.due("5: fault(0)", x.fault(0), 2);
        CHECK.due("5: fault(1)", x.fault(1), 22);
        CHECK.due("5: fault(2)", x.fault(2), TagDraw.NONE);
        CHECK.due("5: fault(-1)", x.fault(-1), TagDraw.NONE);
        CHECK.refused("4: load(1) on an empty tape", x, x.load(1), 1);
        CHECK.due("5: fault(1) behind STATUS 1", x.fault(1), 22);
        CHECK.due("4: many(1)", x.many(1), 1);
        CHECK.due("4: many(4)", x.many(4), 2);
        CHECK.due("4: many(5)", x.many(5), 50);
        CHECK.due("4: many(6)", x.many(6), 40);
        CHECK.due("4: many(8)", x.many(8), 1);
        CHECK.due("4: out(0)", x.out(0), '0');
    }

    private static void texts() {
        CHECK.fine("", 0);
        CHECK.fine(" \n \n", 0);
        CHECK.fine("unit u 0;", 0);
        CHECK.fine("unit u 020 ;\nhunter\na\n007\nguest\n;", 1);
        CHECK.fault("unitu3;", 2, 0);
        CHECK.fine("unit u3;hunter a1guest;", 1);
        CHECK.fine("unit abcdefgh 20;hunter z 20;", 1);
        CHECK.fine("prefer 0;guests 000;law plain;", 0);
        CHECK.fine("prefer 100;guests 100;law square;", 0);
        // What is said in other LINES is no WORD of its own as a NAME.
        CHECK.fine("unit plain 1;hunter line 2;hunter square 3;party units line square;asks units plain;", 2);
        CHECK.fault("asks a u;", 4, 5);
        CHECK.fine("unit u 1;unit v 1;unit w 1;hunter a 1;asks a w v u;", 1);
        CHECK.fine("hunter a 1;hunter aa 1;hunter aaa 1;hunter b 1;hunter ba 1;hunter ab 1;", 6);
        CHECK.fine("hunter zzzzzzzz 1;hunter zzzzzzzy 1;", 2);
        CHECK.fine(Check.hunters(10) + "party p ha hb;party q hc hd;party r he hf;party s hg hh hi hj;", 10);
        CHECK.fine("unit a 1;unit b 1;unit c 1;unit d 1;unit e 1;", 0);
    }

    private static void faultsOfTokens() {
        CHECK.fault("unit u 1;\tunit v 1;", 1, 9);
        CHECK.fault("Unit u 1;", 1, 0);
        CHECK.fault("unit abcdefghi 1;", 1, 5);
        CHECK.fault("unit u 0001;", 1, 7);
        CHECK.fault("unit u 1000", 1, 7);
        CHECK.fault("unit u -1;", 1, 7);
        CHECK.fault("unit u 1,", 1, 8);
        CHECK.fault("unit \u00e9 1;", 1, 5);
        CHECK.fault("unit u 1;\u0000", 1, 9);
        CHECK.fault("hunters_", 2, 0);
        CHECK.fault("abcdefghijkl", 1, 0);
        CHECK.fault("law abcdefghi;", 1, 4);
        CHECK.fault("prefer 9999;", 1, 7);
        CHECK.fault("hunter a 1 guest,", 1, 16);
    }

    private static void faultsOfPlaces() {
        CHECK.fault(";", 2, 0);
        CHECK.fault("7 unit u 1;", 2, 0);
        CHECK.fault("guest;", 2, 0);
        CHECK.fault("units u 1;", 2, 0);
        CHECK.fault("xnit u 1;", 2, 0);
        CHECK.fault("unix u 1;", 2, 0);
        CHECK.fault("unit", 2, 4);
        CHECK.fault("unit  ", 2, 6);
        CHECK.fault("unit u", 2, 6);
        CHECK.fault("unit u 1", 2, 8);
        CHECK.fault("unit u 1\n", 2, 9);
        CHECK.fault("unit u u;", 2, 7);
        CHECK.fault("unit 1 u;", 2, 5);
        CHECK.fault("unit u 1 1;", 2, 9);
        CHECK.fault("unit u 1 guest;", 2, 9);
        CHECK.fault("hunter a 1 guest guest;", 2, 17);
        CHECK.fault("hunter a 1 guests;", 2, 11);
        CHECK.fault("hunter a;", 2, 8);
        CHECK.fault("law;", 2, 3);
        CHECK.fault("law 1;", 2, 4);
        CHECK.fault("law plain line;", 2, 10);
        CHECK.fault("prefer ;", 2, 7);
        CHECK.fault("prefer x;", 2, 7);
        CHECK.fault("prefer 1 2;", 2, 9);
        CHECK.fault("guests;", 2, 6);
        for (String kept : new String[] {"unit", "hunter", "guest", "party", "asks", "law", "prefer", "guests"}) {
            CHECK.fault("unit " + kept + " 1;", 2, 5);
            CHECK.fault("hunter " + kept + " 1;", 2, 7);
            CHECK.fault("party " + kept + " a b;", 2, 6);
            CHECK.fault("asks " + kept + " a;", 2, 5);
        }
        CHECK.fault("unit a 1;unit b 1;unit c 1;unit d 1;unit e 1;unit f 1;", 2, 45);
        CHECK.fault("unit a 1;unit b 1;unit c 1;unit d 1;unit e 1;unit a 99;", 2, 45);
        CHECK.fault(Check.hunters(10) + "hunter z 1;", 2, Check.hunters(10).length());
        String parties = Check.hunters(10) + "party p ha hb;party q hc hd;party r he hf;party s hg hh;";
        CHECK.fault(parties + "party t hi hj;", 2, parties.length());
        CHECK.fault("law line;law line;", 2, 9);
        CHECK.fault("prefer 1;prefer 1;", 2, 9);
        CHECK.fault("guests 1;guests 1;", 2, 9);
        String five = Check.hunters(5);
        CHECK.fault(five + "party p;", 2, five.length() + 7);
        CHECK.fault(five + "party p ha;", 2, five.length() + 10);
        CHECK.fault(five + "party p ha hb 1;", 2, five.length() + 14);
        CHECK.fault(five + "party p ha hb hc hd he;", 2, five.length() + 20);
        // A fifth one can't stand there, whoever it is.
        CHECK.fault(five + "party p ha hb hc hd ha;", 2, five.length() + 20);
        CHECK.fault(five + "party p ha hb", 2, five.length() + 13);
        CHECK.fault(five + "party p ha hb hc hd", 2, five.length() + 19);
        CHECK.fault(five + "party p ha hb hc hd unit u 1;", 2, five.length() + 20);
        String units = "unit u 1;unit v 1;unit w 1;unit x 1;hunter a 1;";
        CHECK.fault(units + "asks;", 2, units.length() + 4);
        CHECK.fault(units + "asks a;", 2, units.length() + 6);
        CHECK.fault(units + "asks a u v w x;", 2, units.length() + 13);
        CHECK.fault(units + "asks a u v w u;", 2, units.length() + 13);
        CHECK.fault(units + "asks a u 3;", 2, units.length() + 9);
        CHECK.fault(units + "asks a unit;", 2, units.length() + 7);
        CHECK.fault(units + "asks a u", 2, units.length() + 8);
        CHECK.fault(units + "asks a u v w", 2, units.length() + 12);
        CHECK.fault(units + "asks a u v w law line;", 2, units.length() + 13);
    }

    private static void faultsOfNumbers() {
        CHECK.fault("unit u 21;", 3, 7);
        CHECK.fault("unit u 999", 3, 7);
        CHECK.fault("hunter a 21 guest;", 3, 9);
        CHECK.fault("prefer 101;", 3, 7);
        CHECK.fault("guests 101;", 3, 7);
    }

    private static void faultsOfNames() {
        CHECK.fault("unit u 1;unit u 1;", 4, 14);
        CHECK.fault("unit u 1;hunter u 1;", 4, 16);
        CHECK.fault("hunter a 1;unit a 1;", 4, 16);
        CHECK.fault("hunter a 1;hunter a 1;", 4, 18);
        String three = "unit u 1;hunter a 1;hunter b 1;hunter c 1;";
        int end = three.length();
        CHECK.fault(three + "party a b c;", 4, end + 6);
        CHECK.fault(three + "party u b c;", 4, end + 6);
        CHECK.fault(three + "party p a b;unit p 1;", 4, end + 17);
        CHECK.fault(three + "party p a b;hunter p 1;", 4, end + 19);
        CHECK.fault(three + "party p a p;", 4, end + 10);
        CHECK.fault(three + "party p a a;", 4, end + 10);
        CHECK.fault(three + "party p a u;", 4, end + 10);
        CHECK.fault(three + "party p x a;", 4, end + 8);
        CHECK.fault(three + "party p a b;party q b c;", 4, end + 20);
        CHECK.fault(three + "asks a u;party p b a;", 4, end + 19);
        CHECK.fault(three + "asks u u;", 4, end + 5);
        CHECK.fault(three + "asks x u;", 4, end + 5);
        CHECK.fault(three + "asks a u;asks a u;", 4, end + 14);
        CHECK.fault(three + "party p a b;asks b u;", 4, end + 17);
        CHECK.fault(three + "party p a b;asks p u;asks p u;", 4, end + 26);
        CHECK.fault(three + "asks a b;", 4, end + 7);
        CHECK.fault(three + "asks a x;", 4, end + 7);
        CHECK.fault(three + "asks a u u;", 4, end + 9);
        CHECK.fault("unit u 1;unit v 1;hunter a 1;asks a u v u;", 4, 40);
        CHECK.fault("unit u 1;unit v 1;hunter a 1;asks a u v v;", 4, 40);
        // NAMES are told ahead of their use.
        CHECK.fault("hunter a 1;asks a u;unit u 1;", 4, 18);
    }

    private static void theFirstFaultAlongTheText() {
        CHECK.fault("unit u 99 ;;", 3, 7);
        CHECK.fault("unit u 1;x \t", 2, 9);
        CHECK.fault("unit law 99;", 2, 5);
        CHECK.fault("hunter a 1;hunter a 99;", 4, 18);
        CHECK.fault("\t;", 1, 0);
    }
}
