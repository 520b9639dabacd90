/**
 * The edges of section 1, sentence by sentence: the last that may be and the first that may not, nothing at all,
 * as many as there may be, and one more. The sentences stand ahead of their tests.
 */
public final class TextEdgesTest {
    private static final Check CHECK = new Check();
    private static final String[] KEPT = {"unit", "hunter", "guest", "party", "asks", "law", "prefer", "guests"};
    private static final String FIVE_UNITS = "unit u 1;unit v 1;unit w 1;unit x 1;unit y 1;";
    private static final String FOUR_PARTIES = "party p ha hb;party q hc hd;party r he hf;party s hg hh;";

    public static void main(String[] args) {
        bytes();
        bytesInsideOfTokens();
        blanks();
        words();
        numbers();
        signs();
        lines();
        namesOfOtherWords();
        takenNames();
        counts();
        sizesOfParties();
        choices();
        without();
        mostOfAll();
        theEndOfTheText();
        secondLines();
        namesThatCantBeThere();
        leastKindOfOneToken();
        firstAlongTheText();
        CHECK.end("TextEdgesTest");
    }

    private static String times(int n, String part) {
        return part.repeat(n);
    }

    // ---- "a TEXT of at most 700 bytes"

    private static void bytes() {
        CHECK.fine("", 0);
        CHECK.fine(times(700, " "), 0);
        CHECK.fine(times(689, " ") + "hunter a 1;", 1);
        CHECK.fine("hunter a 1;" + times(689, "\n"), 1);
        CHECK.fault(times(699, " ") + ",", 1, 699);
        CHECK.fault(times(699, " ") + ";", 2, 699);
        CHECK.fault(times(690, " ") + "hunter a 1", 2, 700);
        CHECK.fault(times(698, "\n") + "1 ", 2, 698);
        CHECK.fault("law" + times(697, " "), 2, 700);
        CHECK.fault(times(700, ";"), 2, 0);
        TagDraw x = new TagDraw();
        Check.feed(x, times(689, " ") + "hunter a 1;");
        CHECK.due("3: feed() of more than 700", x.feed(0, 0, 0, 0, 0), TagDraw.NONE);
        CHECK.refused("4: load(701)", x, x.load(701), 1);
        CHECK.due("4: load(700)", x.load(700), 1);
    }

    // ---- "TOKENS": which bytes begin one, end one, or are none

    /** Every byte behind a LINE, in the midst of a WORD, and in the midst of a NUMBER. */
    private static void bytesInsideOfTokens() {
        for (char sign = 0; sign < 256; sign++) {
            boolean blank = sign == 10 || sign == 32;
            boolean letter = sign >= 'a' && sign <= 'z';
            boolean digit = sign >= '0' && sign <= '9';
            boolean begins = letter || digit || sign == ';';
            String behind = "hunter h 1;" + sign;
            String inWord = "hunter h" + sign + " 1;";
            String inNumber = "hunter h 1" + sign + ";";
            if (blank) {
                CHECK.fine(behind, 1);
                CHECK.fine(inWord, 1);
                CHECK.fine(inNumber, 1);
                continue;
            }
            CHECK.fault(behind, begins ? 2 : 1, 11);
            if (letter) {
                CHECK.fine(inWord, 1);
            } else {
                CHECK.fault(inWord, begins ? 2 : 1, digit ? 10 : 8);
            }
            if (digit) {
                CHECK.fine(inNumber, 1);
            } else {
                CHECK.fault(inNumber, begins ? 2 : 1, sign == ';' ? 11 : 10);
            }
        }
    }

    // ---- "between them blanks (10, 32)": any number of them, and none where TOKENS end by themselves

    private static void blanks() {
        CHECK.fine("unit u1;hunter a1guest;asks a u;law line;prefer1;guests2;", 1);
        CHECK.fine("\n \nunit\n\nu  1 \n ;\nhunter a\n1\nguest\n;\n", 1);
        CHECK.fault("unitu 1;", 2, 0);
        CHECK.fault("unit u1 1;", 2, 8);
        CHECK.fault("unit u 1 1;", 2, 9);
        CHECK.fault("hunter a 1guests;", 2, 10);
        CHECK.fault("lawline;", 2, 0);
    }

    // ---- "WORDS (1 to 8 small letters; a longer one is no TOKEN)"

    private static void words() {
        CHECK.fine("hunter a 1;", 1);
        CHECK.fine("hunter abcdefgh 1;", 1);
        CHECK.fault("hunter abcdefghi 1;", 1, 7);
        CHECK.fault("hunter abcdefghunter 1;", 1, 7);
        CHECK.fault(times(700, "a"), 1, 0);
        CHECK.fault("aaaaaaaa", 2, 0);
        CHECK.fault("aaaaaaaaa", 1, 0);
        CHECK.fault("unit A 1;", 1, 5);
        CHECK.fault("unit aB 1;", 1, 6);
        // The first and the last letter there is, and NAMES that differ in the last one, or in length alone.
        CHECK.fine("hunter a 1;hunter z 1;hunter az 1;hunter za 1;hunter aaaaaaaa 1;hunter aaaaaaab 1;"
            + "hunter aaaaaaa 1;hunter zzzzzzzz 1;", 8);
    }

    // ---- "NUMBERS (1 to 3 digits; a longer one is none)"

    private static void numbers() {
        CHECK.fine("hunter a 0;", 1);
        CHECK.fine("hunter a 00;", 1);
        CHECK.fine("hunter a 000;", 1);
        CHECK.fine("hunter a 020;", 1);
        CHECK.fine("prefer 100;", 0);
        CHECK.fault("hunter a 0000;", 1, 9);
        CHECK.fault("hunter a 0020;", 1, 9);
        CHECK.fault("prefer 0100;", 1, 7);
        // 4,294,967,297 goes around to 1 in 32 bits, 18,446,744,073,709,551,617 in 64.
        CHECK.fault("hunter a 4294967297;", 1, 9);
        CHECK.fault("hunter a 18446744073709551617;", 1, 9);
        CHECK.fault(times(700, "1"), 1, 0);
        CHECK.fault("hunter a 021;", 3, 9);
        CHECK.fault("hunter a 999;", 3, 9);
    }

    // ---- "the SIGN ;"

    private static void signs() {
        CHECK.fault("hunter a 1;;", 2, 11);
        CHECK.fault("hunter a ;", 2, 9);
        CHECK.fault("hunter ;", 2, 7);
        CHECK.fault("hunter a 1:", 1, 10);
        CHECK.fault(";", 2, 0);
    }

    // ---- "A TEXT: {LINE}": LINES in any order, each WORD of them whole

    private static void lines() {
        CHECK.fine("guests 1;prefer 1;law line;unit u 1;hunter a 1;hunter b 1;party p a b;asks p u;", 2);
        CHECK.fine("hunter a 1;unit u 1;asks a u;hunter b 1;unit v 1;asks b v u;law square;hunter c 1;", 3);
        for (String word : KEPT) {
            CHECK.fault(word.substring(0, word.length() - 1) + " a 1;", 2, 0);
            CHECK.fault(word.substring(1) + " a 1;", 2, 0);
            CHECK.fault(word + "x a 1;", 2, 0);
        }
        CHECK.fault("guest;", 2, 0);
        CHECK.fault("1;", 2, 0);
        CHECK.fault("plain;", 2, 0);
        for (String word : new String[] {"plai", "lin", "squar", "lines", "plains", "squares", "guest", "law"}) {
            CHECK.fault("law " + word + ";", 2, 4);
        }
        CHECK.fine("law plain;", 0);
        CHECK.fine("law line;", 0);
        CHECK.fine("law square;", 0);
    }

    // ---- "NAMES are WORDS but unit, hunter, guest, party, asks, law, prefer, guests"

    private static void namesOfOtherWords() {
        String two = "hunter a 1;hunter b 1;";
        for (String word : KEPT) {
            CHECK.fault("unit " + word + " 1;", 2, 5);
            CHECK.fault("hunter " + word + " 1;", 2, 7);
            CHECK.fault(two + "party " + word + " a b;", 2, 28);
            CHECK.fault(two + "party p " + word + " b;", 2, 30);
            CHECK.fault(two + "party p a " + word + ";", 2, 32);
            CHECK.fault(two + "asks " + word + " a;", 2, 27);
            CHECK.fault(two + "asks a " + word + ";", 2, 29);
            CHECK.fine("hunter " + word + "x 1;hunter x" + word + " 1;hunter " + word.substring(1) + " 1;", 3);
        }
        for (String word : new String[] {"plain", "line", "square"}) {
            CHECK.fine("unit " + word + " 1;law " + word + ";", 0);
            CHECK.fine("hunter " + word + " 1;law " + word + ";", 1);
            CHECK.fine("unit u 1;" + two + "party " + word + " a b;asks " + word + " u;", 2);
        }
    }

    // ---- "no two (of UNITS, HUNTERS, PARTIES) have one"

    private static void takenNames() {
        String first = "unit u 1;hunter a 1;hunter b 1;hunter c 1;hunter d 1;party p a b;";
        int end = first.length();
        for (String taken : new String[] {"u", "a", "d", "p"}) {
            CHECK.fault(first + "unit " + taken + " 1;", 4, end + 5);
            CHECK.fault(first + "hunter " + taken + " 1;", 4, end + 7);
            CHECK.fault(first + "party " + taken + " c d;", 4, end + 6);
        }
        CHECK.fine(first + "party q c d;unit v 1;hunter e 1;", 5);
        // Of as many as there may be, the last one's NAME is taken, too.
        String full = FIVE_UNITS.substring(0, 36) + Check.hunters(9) + FOUR_PARTIES.substring(0, 42);
        CHECK.fault(full + "unit x 1;", 4, full.length() + 5);
        CHECK.fault(full + "hunter hi 1;", 4, full.length() + 7);
        CHECK.fault(full + "party r hg hh;", 4, full.length() + 6);
    }

    // ---- "its QUOTA, 0 to 20", "its POINTS, 0 to 20", "prefer: 0 to 100", "guests: 0 to 100"; "3 a NUMBER that can't be"

    private static void counts() {
        for (int n = 0; n <= 999; n++) {
            if (n <= 20) {
                TagDraw x = Check.of("unit u " + n + ";hunter a " + n + ";hunter b " + n + " guest;");
                CHECK.due("8: unit(0, 0)", x.unit(0, 0), n);
                CHECK.due("7: hunter(0, 0)", x.hunter(0, 0), n);
                CHECK.due("7: hunter(1, 0)", x.hunter(1, 0), n);
            } else {
                CHECK.fault("unit u " + n + ";", 3, 7);
                CHECK.fault("hunter a " + n + ";", 3, 9);
                CHECK.fault("hunter a " + n + " guest;", 3, 9);
            }
            if (n <= 100) {
                TagDraw x = Check.of("prefer " + n + ";guests " + n + ";");
                CHECK.due("6: many(5)", x.many(5), n);
                CHECK.due("6: many(6)", x.many(6), n);
            } else {
                CHECK.fault("prefer " + n + ";", 3, 7);
                CHECK.fault("guests " + n + ";", 3, 7);
            }
        }
    }

    // ---- "its own NAME, then its HUNTERS, 2 to 4"

    private static void sizesOfParties() {
        String five = Check.hunters(5);
        int end = five.length();
        CHECK.fault(five + "party;", 2, end + 5);
        CHECK.fault(five + "party p;", 2, end + 7);
        CHECK.fault(five + "party p ha;", 2, end + 10);
        for (String party : new String[] {"ha hb", "ha hb hc", "ha hb hc hd", "he hd", "he hc ha hb"}) {
            TagDraw x = Check.of(five + "party p " + party + ";");
            CHECK.due("9: SIZE of p of " + party, x.applicant(x.many(3) - 1, 0), party.length() / 3 + 1);
        }
        CHECK.fault(five + "party p ha hb hc hd he;", 2, end + 20);
        CHECK.fault(five + "party p ha hb hc hd", 2, end + 19);
        CHECK.fault(five + "party p ha hb hc hd 1;", 2, end + 20);
        // A fifth one can't stand there, whoever it is: that is the least kind.
        for (String fifth : new String[] {"he", "ha", "p", "zz", "guest"}) {
            CHECK.fault(five + "party p ha hb hc hd " + fifth + ";", 2, end + 20);
        }
        CHECK.fault(five + "party p ha hb hc hd abcdefghi;", 1, end + 20);
    }

    // ---- "its CHOICES: 1 to 3 unlike UNITS, in this order"

    private static void choices() {
        String list = FIVE_UNITS + "hunter a 1;";
        int end = list.length();
        CHECK.fault(list + "asks;", 2, end + 4);
        CHECK.fault(list + "asks a;", 2, end + 6);
        int[][] told = {{0}, {4}, {1, 0}, {0, 1}, {4, 3, 2}, {2, 4, 3}};
        for (int[] units : told) {
            StringBuilder asks = new StringBuilder("asks a");
            for (int u : units) {
                asks.append(' ').append("uvwxy".charAt(u));
            }
            TagDraw x = Check.of(list + asks + ";");
            CHECK.due("9: applicant(0, 4) behind " + asks, x.applicant(0, 4), units.length);
            for (int k = 0; k < units.length; k++) {
                CHECK.due("10: choice(0, " + k + ") behind " + asks, x.choice(0, k), units[k]);
            }
        }
        CHECK.fault(list + "asks a u v w x;", 2, end + 13);
        CHECK.fault(list + "asks a u v w", 2, end + 12);
        CHECK.fault(list + "asks a u v w 1;", 2, end + 13);
        for (String fourth : new String[] {"x", "u", "a", "zz", "guest"}) {
            CHECK.fault(list + "asks a u v w " + fourth + ";", 2, end + 13);
        }
        CHECK.fault(list + "asks a u v w abcdefghi;", 1, end + 13);
    }

    // ---- "(none without)", "(0 without)", "(100 without)", "plain without", "with guest it is a GUEST"

    private static void without() {
        TagDraw x = Check.of("unit u 1;hunter a 1;hunter b 1 guest;prefer 1;guests 2;law line;asks b u;");
        CHECK.due("7: GUEST with guest", x.hunter(1, 1), 1);
        CHECK.due("7: GUEST without", x.hunter(0, 1), 0);
        CHECK.due("9: CHOICES without asks", x.applicant(0, 4), 0);
        CHECK.due("9: CHOICES with asks", x.applicant(1, 4), 1);
        CHECK.due("6: LAW with law", x.many(4), 1);
        CHECK.due("6: prefer with prefer", x.many(5), 1);
        CHECK.due("6: guests with guests", x.many(6), 2);
        Check.load(x, "unit u 1;hunter a 1;hunter b 1;");
        CHECK.due("7: GUEST without, anew", x.hunter(1, 1), 0);
        CHECK.due("9: CHOICES without asks, anew", x.applicant(1, 4), 0);
        CHECK.due("6: LAW without", x.many(4), 0);
        CHECK.due("6: prefer without", x.many(5), 0);
        CHECK.due("6: guests without", x.many(6), 100);
    }

    // ---- "At most 5 UNITS, 10 HUNTERS, 4 PARTIES, each numbered from 0 on as they are told"

    private static void mostOfAll() {
        String most = FIVE_UNITS + Check.hunters(10) + FOUR_PARTIES;
        TagDraw x = Check.of(most + "asks p u;asks s y;asks hj w;");
        int[] many = {5, 10, 4, 6};
        for (int what = 0; what < 4; what++) {
            CHECK.due("6: many(" + what + ") of the most", x.many(what), many[what]);
        }
        CHECK.due("10: choice(2, 0) of p", x.choice(2, 0), 0);
        CHECK.due("10: choice(5, 0) of s", x.choice(5, 0), 4);
        CHECK.due("10: choice(1, 0) of hj", x.choice(1, 0), 2);
        int end = most.length();
        CHECK.fault(most + "unit z 1;", 2, end);
        CHECK.fault(most + "hunter z 1;", 2, end);
        CHECK.fault(most + "party z hi hj;", 2, end);
        // At the LINE's WORD, whatever stands behind it; but a LINE of another kind may follow.
        CHECK.fault(most + "unit u 99;", 2, end);
        CHECK.fault(most + "hunter ,", 2, end);
        CHECK.fault(most + "party", 2, end);
        CHECK.fine(most + "law line;prefer 1;guests 1;asks q u;", 10);
        CHECK.fine("unit u 0;unit v 0;unit w 0;unit x 0;" + Check.hunters(9) + FOUR_PARTIES.substring(0, 42)
            + "unit z 0;hunter zz 0;party t hg zz;", 10);
    }

    // ---- "2 a TOKEN that can't stand there (the end of the text: its length; ..)"

    /** Each TEXT is cut off behind each of its TOKENS. */
    private static void theEndOfTheText() {
        String ahead = "unit u 1;unit v 1;hunter a 1;hunter b 1;";
        String[][] cut = {{"unit", " w", " 1"}, {"hunter", " c", " 1", " guest"}, {"party", " p", " a", " b"},
            {"asks", " a", " u", " v"}, {"law", " line"}, {"prefer", " 1"}, {"guests", " 1"}};
        for (String[] line : cut) {
            StringBuilder text = new StringBuilder(ahead);
            for (String token : line) {
                text.append(token);
                CHECK.fault(text.toString(), 2, text.length());
                CHECK.fault(text + " \n ", 2, text.length() + 3);
            }
            CHECK.fine(text + ";", line[0].equals("hunter") ? 3 : 2);
        }
    }

    // ---- "a second law, prefer, guests: at the LINE's WORD"

    private static void secondLines() {
        for (String line : new String[] {"law plain;", "law square;", "prefer 0;", "prefer 100;", "guests 100;"}) {
            String word = line.substring(0, line.indexOf(' '));
            CHECK.fine(line, 0);
            CHECK.fault(line + line, 2, line.length());
            CHECK.fault(line + "unit u 1;" + word + " 999;", 2, line.length() + 9);
            CHECK.fault(line + word, 2, line.length());
            CHECK.fault(line + word + " ,", 2, line.length());
        }
        // Each load() starts anew.
        TagDraw x = Check.of("law line;prefer 1;guests 1;");
        CHECK.due("4: load of a law in a second TEXT", Check.load(x, "law line;prefer 2;guests 2;"), 0);
        CHECK.due("6: many(5) of a second TEXT", x.many(5), 2);
    }

    // ---- "4 a NAME that can't be there"

    private static void namesThatCantBeThere() {
        String list = "unit u 1;unit v 1;unit w 1;hunter a 1;hunter b 1;hunter c 1;hunter d 1;hunter e 1;hunter f 1;"
            + "party p a b;asks f u;";
        int end = list.length();
        // Of a PARTY's HUNTERS: no HUNTER, one that is in a PARTY, that has CHOICES; first, in the midst, and last.
        for (String wrong : new String[] {"u", "p", "q", "z", "a", "b", "f"}) {
            CHECK.fault(list + "party q " + wrong + " c;", 4, end + 8);
            CHECK.fault(list + "party q c " + wrong + ";", 4, end + 10);
            CHECK.fault(list + "party q c d " + wrong + ";", 4, end + 12);
            CHECK.fault(list + "party q c d e " + wrong + ";", 4, end + 14);
        }
        // "that stands in this LINE already"
        CHECK.fault(list + "party q c c;", 4, end + 10);
        CHECK.fault(list + "party q c d c;", 4, end + 12);
        CHECK.fault(list + "party q c d d;", 4, end + 12);
        for (String again : new String[] {"c", "d", "e"}) {
            CHECK.fault(list + "party q c d e " + again + ";", 4, end + 14);
        }
        // Behind asks: no HUNTER in no PARTY and no PARTY, one that has CHOICES.
        for (String wrong : new String[] {"u", "z", "a", "b", "f"}) {
            CHECK.fault(list + "asks " + wrong + " u;", 4, end + 5);
        }
        CHECK.fault(list + "asks p u;asks p v;", 4, end + 14);
        CHECK.fault(list + "asks c u;asks c v;", 4, end + 14);
        // Of CHOICES: no UNIT, one that stands in this LINE already.
        for (String wrong : new String[] {"a", "p", "z", "c"}) {
            CHECK.fault(list + "asks c " + wrong + ";", 4, end + 7);
            CHECK.fault(list + "asks c u " + wrong + ";", 4, end + 9);
            CHECK.fault(list + "asks c u v " + wrong + ";", 4, end + 11);
        }
        CHECK.fault(list + "asks c u u;", 4, end + 9);
        CHECK.fault(list + "asks c u v u;", 4, end + 11);
        CHECK.fault(list + "asks c u v v;", 4, end + 11);
        CHECK.fine(list + "party q c d e;asks p w v u;asks q u v w;", 6);
    }

    // ---- "of one TOKEN the least kind"

    private static void leastKindOfOneToken() {
        CHECK.fault("unit 99 1;", 2, 5);
        CHECK.fault("hunter a 1 99;", 2, 11);
        CHECK.fault("prefer 1 101;", 2, 9);
        CHECK.fault("unit u 0021;", 1, 7);
        CHECK.fault("unit u 1;unit unit 1;", 2, 14);
        CHECK.fault("abcdefghi", 1, 0);
        CHECK.fault("unit u ,", 1, 7);
        CHECK.fault("law ,", 1, 4);
        CHECK.fault("law 1000;", 1, 4);
    }

    // ---- "of several the first along the text"

    private static void firstAlongTheText() {
        CHECK.fault("unit u 21;,", 3, 7);
        CHECK.fault("unit u 1;unit u 21;,", 4, 14);
        CHECK.fault("unit u 1;unit v 21;unit u 1;", 3, 16);
        CHECK.fault("unit u 1 unit u 1;,", 2, 9);
        CHECK.fault(",unit unit 21;", 1, 0);
    }
}
