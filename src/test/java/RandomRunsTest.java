import java.lang.reflect.InvocationTargetException;
import java.lang.reflect.Method;
import java.util.ArrayList;
import java.util.Collections;
import java.util.List;
import java.util.Random;

/** Runs of calls, the same each time, whose every answer and STATUS is compared with Model's. */
public final class RandomRunsTest {
    /** Each call with what its arguments are; see argument(). */
    private static final String[] CALLS = {
        "fault W2", "many W11", "hunter H W5", "unit U W6", "applicant A W7", "choice A W3", "demand U W2",
        "share A W2",
        "order S A", "drawn S A", "round S A", "left S U W4", "winners S", "waits S U K", "next S U Q", "envies S A",
        "spoils S A", "behind S H", "lucky L A",
        "years S Y W3", "often S Y H", "soonest S Y H",
        "draw S", "points H Q", "quota U Q", "choose A C C C", "law W3", "prefer N", "guests N", "split P", "undo",
        "undo", "print S", "out O", "out O", "status"};
    /** Those that go through all ORDERS. */
    private static final String[] DEAR = {"chance A W3", "at A U", "both A A", "sure W2", "mean U", "given W2", "ends",
        "need H T", "wise A", "wiseChance A", "together H H", "apart P", "likes A"};

    private static final int[] FAR = {Integer.MIN_VALUE, -1_000_000_000, -2, 1_000_000_000, Integer.MAX_VALUE};

    private final Random random;
    private final TagDraw program = new TagDraw();
    private final Model model = new Model();
    private final StringBuilder told = new StringBuilder();

    private RandomRunsTest(long seed) {
        random = new Random(seed);
    }

    public static void main(String[] args) throws Exception {
        int runs = args.length > 0 ? Integer.parseInt(args[0]) : 250;
        for (int i = 0; i < runs; i++) {
            new RandomRunsTest(i).run(i);
        }
        System.out.println("RandomRunsTest: " + runs + " runs are as due");
    }

    private void run(int number) throws Exception {
        // Most runs have few APPLICANTS: Model takes its time for all ORDERS of seven.
        int most = number % 25 == 0 ? 7 : number % 5 == 4 ? 10 : 5;
        for (int part = 0; part < 3; part++) {
            load(most);
            for (int i = 0; i < 60; i++) {
                boolean dear = random.nextInt(most == 7 ? 12 : 3) == 0;
                String[] from = dear ? DEAR : CALLS;
                call(from[random.nextInt(from.length)]);
            }
        }
    }

    private int below(int n) {
        return random.nextInt(n);
    }

    private boolean rarely() {
        return below(12) == 0;
    }

    /** A number from 0 on; now and then one that is no such. */
    private int oneOf(int count) {
        return rarely() || count == 0 ? new int[] {-1, count, 10}[below(3)] : below(count);
    }

    private int argument(String kind) {
        if (below(60) == 0) {
            return FAR[below(FAR.length)];
        }
        int most = kind.length() > 1 ? Integer.parseInt(kind.substring(1)) : 0;
        switch (kind.charAt(0)) {
            case 'W': return rarely() ? below(2) * (most + 1) - 1 : below(most);
            case 'H': return oneOf(model.w.hunters.size());
            case 'A': return oneOf(model.w.applicants.size());
            case 'U': return oneOf(model.w.quotas.size());
            case 'P': return oneOf(model.w.parties().size());
            case 'C': return rarely() ? below(9) - 2 : below(5) - 1;
            case 'S': return rarely() ? new int[] {-1, 1_000_000_000, 999_999_999, 999_999_970}[below(4)]
                : below(2) == 0 ? below(20) : below(1_000_000_000);
            case 'L': return rarely() ? 999_999_940 + below(20) : below(1_000_000);
            case 'K': return below(6) - 2;
            case 'Q': return rarely() ? below(2) * 22 - 1 : below(2) == 0 ? below(4) : below(21);
            case 'Y': return rarely() ? below(2) * 31 : 1 + below(30);
            case 'N': return rarely() ? below(2) * 102 - 1 : below(2) == 0 ? below(101) : below(5) * 25;
            case 'T': return rarely() ? below(2) * 1002 - 1 : below(1001);
            case 'O': return below(45) - 1;
            default: throw new IllegalStateException(kind);
        }
    }

    private void call(String shape) throws Exception {
        String[] words = shape.split(" ");
        Object[] arguments = new Object[words.length - 1];
        for (int i = 0; i < arguments.length; i++) {
            arguments[i] = argument(words[i + 1]);
        }
        if (words[0].equals("choose") && below(4) > 0) {
            arrange(arguments);
        }
        call(words[0], arguments);
    }

    /** CHOICES that can be. */
    private void arrange(Object[] choose) {
        List<Integer> row = new ArrayList<>();
        for (int u = 0; u < model.w.quotas.size(); u++) {
            row.add(u);
        }
        Collections.shuffle(row, random);
        int n = below(4);
        for (int i = 0; i < 3; i++) {
            choose[i + 1] = i < n && i < row.size() ? row.get(i) : Model.NONE;
        }
    }

    private void call(String name, Object... arguments) throws Exception {
        Class<?>[] types = new Class<?>[arguments.length];
        java.util.Arrays.fill(types, int.class);
        long got = answer(TagDraw.class.getDeclaredMethod(name, types), program, arguments);
        long want = answer(Model.class.getDeclaredMethod(name, types), model, arguments);
        String call = name + java.util.Arrays.toString(arguments);
        told.append(call).append(" -> ").append(want).append(", ").append(model.status()).append('\n');
        if (got != want || program.status() != model.status()) {
            System.out.println(told);
            System.out.println(call + " answered " + got + " with STATUS " + program.status()
                + ", due is " + want + " with " + model.status());
            System.exit(1);
        }
    }

    private static long answer(Method method, Object object, Object[] arguments) throws Exception {
        try {
            return ((Number) method.invoke(object, arguments)).longValue();
        } catch (InvocationTargetException e) {
            throw new IllegalStateException(method.getName() + java.util.Arrays.toString(arguments), e.getCause());
        }
    }

    // ---- texts

    private void load(int most) throws Exception {
        String text = text(most);
        int changes = below(3) == 0 ? 1 + below(2) : 0;
        for (int i = 0; i < changes; i++) {
            text = faulty(text);
        }
        told.append("TEXT ").append(text).append('\n');
        for (int from = 0; from < text.length(); from += 20) {
            int[] five = Check.packed(text, from);
            call("feed", five[0], five[1], five[2], five[3], five[4]);
        }
        call("load", rarely() ? below(3) * 400 - 1 : Math.min(text.length(), 700));
        call("fault", 0);
        call("fault", 1);
    }

    private String text(int most) {
        List<String> lines = new ArrayList<>();
        int units = 1 + below(rarely() ? 6 : 4);
        for (int u = 0; u < units; u++) {
            lines.add("unit u" + letter(u) + " " + below(rarely() ? 21 : 4));
        }
        List<String> askers = new ArrayList<>();
        int hunters = 1 + below(most);
        for (int h = 0; h < hunters; h++) {
            lines.add("hunter h" + letter(h) + " " + below(below(2) == 0 ? 3 : 21) + (below(4) == 0 ? " guest" : ""));
            askers.add("h" + letter(h));
        }
        Collections.shuffle(askers, random);
        int parties = below(4);
        for (int p = 0; p < parties; p++) {
            int size = 2 + (rarely() ? below(3) : 0);
            if (askers.size() < size + p) {
                break;
            }
            StringBuilder line = new StringBuilder("party p" + letter(p));
            for (int i = 0; i < size; i++) {
                line.append(' ').append(askers.remove(0));
            }
            lines.add(line.toString());
            askers.add("p" + letter(p));
        }
        List<String> row = new ArrayList<>();
        for (int u = 0; u < units; u++) {
            row.add("u" + letter(u));
        }
        for (String asker : askers) {
            if (rarely()) {
                continue;
            }
            Collections.shuffle(row, random);
            int n = 1 + below(Math.min(3, units));
            lines.add("asks " + asker + " " + String.join(" ", row.subList(0, n)));
        }
        if (below(3) > 0) {
            lines.add("law " + new String[] {"plain", "line", "square"}[below(3)]);
        }
        if (below(3) > 0) {
            lines.add("prefer " + argument("N"));
        }
        if (below(3) == 0) {
            lines.add("guests " + argument("N"));
        }
        String gap = below(2) == 0 ? ";" : " ;\n ";
        return String.join(gap, lines) + ";";
    }

    private static char letter(int i) {
        return (char) ('a' + i);
    }

    private static final String[] PIECES = {"unit", "hunter", "guest", "party", "asks", "law", "prefer", "guests",
        "line", "plain", "ua", "ub", "ha", "hb", "pa", "x", "abcdefgh", "abcdefghi", "0", "20", "21", "101", "999",
        "1000", ";", " ", "\n", "\t", "A", "-", "\u00e9", "unit q 1;", "hunter z 2;", "law line;", "prefer 0;",
        "guests 3;", "asks ha ua;"};

    private String faulty(String text) {
        int at = below(text.length() + 1);
        switch (below(4)) {
            case 0: return text.substring(0, at);
            case 1: return text.substring(0, at) + text.substring(Math.min(text.length(), at + 1 + below(4)));
            case 2: return text.substring(0, at) + " " + PIECES[below(PIECES.length)] + " " + text.substring(at);
            default: return text.substring(0, at) + PIECES[below(PIECES.length)] + text.substring(at);
        }
    }
}
