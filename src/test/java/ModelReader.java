import java.nio.charset.StandardCharsets;
import java.util.ArrayList;
import java.util.HashMap;
import java.util.List;
import java.util.Map;
import java.util.Set;
import java.util.regex.Matcher;
import java.util.regex.Pattern;

/** Reads a TEXT for Model: first all TOKENS by patterns, then the LINES. */
final class ModelReader {
    private static final Pattern BLANKS = Pattern.compile("[\n ]*");
    private static final Pattern RUN = Pattern.compile("[a-z]+|[0-9]+|;");
    private static final Set<String> KEPT =
        Set.of("unit", "hunter", "guest", "party", "asks", "law", "prefer", "guests");

    private static final class Fault extends RuntimeException {
        private static final long serialVersionUID = 1;
        final int kind;
        final int place;

        Fault(int kind, int place) {
            this.kind = kind;
            this.place = place;
        }
    }

    private record Token(String text, int place) { }

    int fault;
    int place = -1;
    private final String text;
    private final List<Token> tokens = new ArrayList<>();
    private int at;
    private final Model.World w = new Model.World();
    private final Map<String, Integer> units = new HashMap<>();
    private final Map<String, Integer> hunters = new HashMap<>();
    private final Map<String, Model.Applicant> parties = new HashMap<>();
    private final Map<Integer, Model.Applicant> alone = new HashMap<>();
    private final Set<String> once = new java.util.HashSet<>();

    ModelReader(byte[] bytes) {
        text = new String(bytes, StandardCharsets.ISO_8859_1);
    }

    /** The list; null with a FAULT. */
    Model.World read() {
        tokenize();
        try {
            while (!peek().equals("END")) {
                line();
            }
        } catch (Fault f) {
            fault = f.kind;
            place = f.place;
            return null;
        }
        w.sort();
        return w;
    }

    private void tokenize() {
        int i = 0;
        while (true) {
            Matcher blanks = BLANKS.matcher(text).region(i, text.length());
            blanks.lookingAt();
            i = blanks.end();
            if (i == text.length()) {
                tokens.add(new Token("END", i));
                return;
            }
            Matcher run = RUN.matcher(text).region(i, text.length());
            if (!run.lookingAt() || run.group().length() > (Character.isLetter(run.group().charAt(0)) ? 8 : 3)) {
                tokens.add(new Token("BAD", i));
                return;
            }
            tokens.add(new Token(run.group(), i));
            i = run.end();
        }
    }

    private String peek() {
        return tokens.get(at).text;
    }

    private Fault fault(int kind) {
        return new Fault(peek().equals("BAD") ? 1 : kind, tokens.get(at).place);
    }

    private String take(boolean fine) {
        if (!fine) {
            throw fault(2);
        }
        return tokens.get(at++).text;
    }

    private boolean name() {
        return peek().matches("[a-z]+") && !KEPT.contains(peek());
    }

    private String newName() {
        if (name() && (units.containsKey(peek()) || hunters.containsKey(peek()) || parties.containsKey(peek()))) {
            throw fault(4);
        }
        return take(name());
    }

    private int number(int most) {
        boolean number = peek().matches("[0-9]+");
        if (number && Integer.parseInt(peek()) > most) {
            throw fault(3);
        }
        return Integer.parseInt(take(number));
    }

    private void end() {
        take(peek().equals(";"));
    }

    private void line() {
        String word = peek();
        boolean single = List.of("law", "prefer", "guests").contains(word);
        boolean fine = word.equals("asks")
            || word.equals("unit") && units.size() < 5
            || word.equals("hunter") && hunters.size() < 10
            || word.equals("party") && parties.size() < 4
            || single && once.add(word);
        take(fine);
        switch (word) {
            case "unit" -> unit();
            case "hunter" -> hunter();
            case "party" -> party();
            case "asks" -> asks();
            case "law" -> w.law = List.of("plain", "line", "square")
                .indexOf(take(List.of("plain", "line", "square").contains(peek())));
            case "prefer" -> w.prefer = number(100);
            default -> w.guests = number(100);
        }
        end();
    }

    private void unit() {
        String name = newName();
        w.quotas.add(number(20));
        units.put(name, units.size());
    }

    private void hunter() {
        String name = newName();
        int points = number(20);
        boolean guest = peek().equals("guest");
        if (guest) {
            at++;
        }
        Model.Applicant single = new Model.Applicant();
        single.hunters.add(hunters.size());
        alone.put(hunters.size(), single);
        w.applicants.add(single);
        w.hunters.add(new Model.Hunter(points, guest));
        hunters.put(name, hunters.size());
    }

    private void party() {
        String name = newName();
        Model.Applicant party = new Model.Applicant();
        party.party = true;
        while (party.hunters.size() < 2 || party.hunters.size() < 4 && !peek().equals(";")) {
            Integer h = hunters.get(peek());
            if (name() && (h == null || !alone.containsKey(h) || !alone.get(h).choices.isEmpty()
                || party.hunters.contains(h))) {
                throw fault(4);
            }
            take(name());
            party.hunters.add(h);
        }
        for (int h : party.hunters) {
            w.applicants.remove(alone.remove(h));
        }
        w.applicants.add(party);
        parties.put(name, party);
    }

    private void asks() {
        Integer h = hunters.get(peek());
        Model.Applicant asker = h == null ? parties.get(peek()) : alone.get(h);
        if (name() && (asker == null || !asker.choices.isEmpty())) {
            throw fault(4);
        }
        take(name());
        List<Integer> row = new ArrayList<>();
        while (row.isEmpty() || row.size() < 3 && !peek().equals(";")) {
            Integer u = units.get(peek());
            if (name() && (u == null || row.contains(u))) {
                throw fault(4);
            }
            take(name());
            row.add(u);
        }
        asker.choices = row;
    }
}
