import java.util.ArrayDeque;
import java.util.ArrayList;
import java.util.Arrays;
import java.util.Deque;
import java.util.HashSet;
import java.util.LinkedHashMap;
import java.util.List;
import java.util.Map;
import java.util.Set;
import java.util.function.Predicate;
import java.util.function.ToLongFunction;

/**
 * The document told a second time, as slowly and plainly as it reads, with the Java library:
 * what TagDraw answers is compared with it by RandomRunsTest.
 */
final class Model {
    static final int NONE = -1;

    static final class Hunter {
        final boolean guest;
        int points;
        int has = NONE;

        Hunter(int points, boolean guest) {
            this.points = points;
            this.guest = guest;
        }

        Hunter copy() {
            Hunter other = new Hunter(points, guest);
            other.has = has;
            return other;
        }
    }

    /** A HUNTER alone (number NONE) or a PARTY. */
    static final class Applicant {
        final List<Integer> hunters = new ArrayList<>();
        List<Integer> choices = new ArrayList<>();
        boolean party;

        Applicant copy() {
            Applicant other = new Applicant();
            other.hunters.addAll(hunters);
            other.choices = new ArrayList<>(choices);
            other.party = party;
            return other;
        }
    }

    static final class World {
        List<Integer> quotas = new ArrayList<>();
        List<Hunter> hunters = new ArrayList<>();
        List<Applicant> applicants = new ArrayList<>();
        int law;
        int prefer;
        int guests = 100;
        int draws;

        World copy() {
            World other = new World();
            other.quotas.addAll(quotas);
            hunters.forEach(h -> other.hunters.add(h.copy()));
            applicants.forEach(a -> other.applicants.add(a.copy()));
            other.law = law;
            other.prefer = prefer;
            other.guests = guests;
            other.draws = draws;
            return other;
        }

        List<Applicant> parties() {
            return applicants.stream().filter(a -> a.party).toList();
        }

        int applicantOf(int h) {
            for (int a = 0; a < applicants.size(); a++) {
                if (applicants.get(a).hunters.contains(h)) {
                    return a;
                }
            }
            throw new IllegalStateException("a hunter without an applicant");
        }

        int size(int a) {
            return applicants.get(a).hunters.size();
        }

        int guestsOf(int a) {
            return (int) applicants.get(a).hunters.stream().filter(h -> hunters.get(h).guest).count();
        }

        int pointsOf(int a) {
            int all = 0;
            for (int h : applicants.get(a).hunters) {
                all += hunters.get(h).points;
            }
            return all / size(a);
        }

        int tickets(int a) {
            int p = pointsOf(a);
            return law == 0 ? 1 : law == 1 ? 1 + p : 1 + p * p;
        }

        List<Integer> choices(int a) {
            return applicants.get(a).choices;
        }

        int preferred(int u) {
            return quotas.get(u) * prefer / 100;
        }

        int forGuests(int u) {
            return quotas.get(u) * guests / 100;
        }

        /** Singles stand by number ahead of the parties. */
        void sort() {
            List<Applicant> singles = new ArrayList<>(applicants.stream().filter(a -> !a.party).toList());
            List<Applicant> groups = parties();
            singles.sort((x, y) -> x.hunters.get(0) - y.hunters.get(0));
            applicants = singles;
            applicants.addAll(groups);
        }

        void split(Applicant party) {
            applicants.remove(party);
            for (int h : party.hunters) {
                Applicant alone = new Applicant();
                alone.hunters.add(h);
                alone.choices = new ArrayList<>(party.choices);
                applicants.add(alone);
            }
            sort();
        }

        List<Integer> orderOf(int seed) {
            List<Integer> order = new ArrayList<>();
            List<Integer> rest = new ArrayList<>();
            for (int a = 0; a < applicants.size(); a++) {
                rest.add(a);
            }
            java.math.BigInteger x = java.math.BigInteger.valueOf(seed);
            while (!rest.isEmpty()) {
                x = x.multiply(java.math.BigInteger.valueOf(1103515245)).add(java.math.BigInteger.valueOf(12345))
                    .mod(java.math.BigInteger.ONE.shiftLeft(31));
                int m = rest.stream().mapToInt(this::tickets).sum();
                int drawn = x.intValueExact() / 65536 % m;
                int added = 0;
                for (int a : rest) {
                    added += tickets(a);
                    if (added > drawn) {
                        order.add(a);
                        rest.remove((Integer) a);
                        break;
                    }
                }
            }
            return order;
        }

        Outcome outcome(List<Integer> order) {
            return new Outcome(this, order);
        }

        void pass(Outcome outcome) {
            for (int h = 0; h < hunters.size(); h++) {
                int behind = outcome.behind(h);
                hunters.get(h).has = outcome.unit[applicantOf(h)];
                hunters.get(h).points = behind;
            }
        }
    }

    static final class Outcome {
        final World w;
        final List<Integer> order;
        final int[] unit;
        final int[] round;
        final int[] tags;
        final int[] guests;

        Outcome(World w, List<Integer> order) {
            this.w = w;
            this.order = order;
            int n = order.size();
            unit = new int[n];
            round = new int[n];
            Arrays.fill(unit, NONE);
            tags = w.quotas.stream().mapToInt(q -> q).toArray();
            guests = new int[tags.length];
            for (int u = 0; u < tags.length; u++) {
                guests[u] = w.forGuests(u);
            }
            for (int u = 0; u < tags.length; u++) {
                firstRound(u);
            }
            for (int a : order) {
                for (int u : w.choices(a)) {
                    if (unit[a] == NONE && w.size(a) <= tags[u] && w.guestsOf(a) <= guests[u]) {
                        take(a, u, 2);
                    }
                }
            }
        }

        private void firstRound(int u) {
            int preferred = w.preferred(u);
            List<Integer> row = new ArrayList<>();
            for (int points = 20; points >= 0; points--) {
                for (int a : order) {
                    if (!w.choices(a).isEmpty() && w.choices(a).get(0) == u && w.pointsOf(a) == points) {
                        row.add(a);
                    }
                }
            }
            for (int a : row) {
                if (w.size(a) <= preferred && w.guestsOf(a) <= guests[u]) {
                    preferred -= w.size(a);
                    take(a, u, 1);
                }
            }
        }

        private void take(int a, int u, int r) {
            unit[a] = u;
            round[a] = r;
            tags[u] -= w.size(a);
            guests[u] -= w.guestsOf(a);
        }

        boolean some(int a) {
            return unit[a] != NONE;
        }

        boolean first(int a) {
            return some(a) && w.choices(a).get(0) == unit[a];
        }

        /** How many CHOICES stand ahead of what it has. */
        int ahead(int a) {
            return some(a) ? w.choices(a).indexOf(unit[a]) : w.choices(a).size();
        }

        int behind(int h) {
            int a = w.applicantOf(h);
            int had = w.hunters.get(h).points;
            if (first(a)) {
                return 0;
            }
            return some(a) || w.choices(a).isEmpty() ? had : Math.min(20, had + 1);
        }

        int given() {
            int all = 0;
            for (int a = 0; a < unit.length; a++) {
                all += some(a) ? w.size(a) : 0;
            }
            return all;
        }

        int set() {
            int bits = 0;
            for (int a = 0; a < unit.length; a++) {
                bits |= some(a) ? 1 << a : 0;
            }
            return bits;
        }

        List<Integer> waiting(int u) {
            return order.stream().filter(a -> !some(a) && w.choices(a).contains(u)).toList();
        }
    }

    World w = new World();
    private final Deque<World> past = new ArrayDeque<>();
    private byte[] tape = new byte[0];
    private int status;
    private int fault = NONE;
    private int place = NONE;
    private String out;

    // ---- STATUS

    private int no(int why) {
        status = why;
        return NONE;
    }

    private int yes(long value) {
        status = 0;
        return (int) value;
    }

    private long parts(long value) {
        status = 0;
        return value;
    }

    private boolean noSeed(int seed) {
        return seed < 0 || seed > 999_999_999;
    }

    private boolean out(int i, List<?> row) {
        return i < 0 || i >= row.size();
    }

    // ---- all ORDERS

    private interface Leaf {
        void see(Outcome outcome, long parts);
    }

    private static void everyOrder(World w, Leaf leaf) {
        List<Integer> rest = new ArrayList<>();
        for (int a = 0; a < w.applicants.size(); a++) {
            rest.add(a);
        }
        everyOrder(w, new ArrayList<>(), rest, 1_000_000_000_000L, leaf);
    }

    private static void everyOrder(World w, List<Integer> order, List<Integer> rest, long parts, Leaf leaf) {
        if (rest.isEmpty()) {
            leaf.see(w.outcome(new ArrayList<>(order)), parts);
            return;
        }
        int all = rest.stream().mapToInt(w::tickets).sum();
        for (int a : List.copyOf(rest)) {
            List<Integer> others = new ArrayList<>(rest);
            others.remove((Integer) a);
            order.add(a);
            everyOrder(w, order, others, parts * w.tickets(a) / all, leaf);
            order.remove(order.size() - 1);
        }
    }

    private static long added(World w, ToLongFunction<Outcome> times) {
        long[] all = new long[1];
        everyOrder(w, (outcome, parts) -> all[0] += times.applyAsLong(outcome) * parts);
        return all[0];
    }

    private static long chanceOf(World w, Predicate<Outcome> so) {
        return added(w, o -> so.test(o) ? 1 : 0);
    }

    private boolean tooMany() {
        return w.applicants.size() > 7;
    }

    // ---- the face

    int status() {
        return status;
    }

    int feed(int a, int b, int c, int d, int e) {
        if (tape.length + 20 > 700) {
            return NONE;
        }
        java.nio.ByteBuffer longer = java.nio.ByteBuffer.allocate(tape.length + 20);
        longer.put(tape).putInt(a).putInt(b).putInt(c).putInt(d).putInt(e);
        tape = longer.array();
        return tape.length;
    }

    int load(int n) {
        if (n < 0 || n > tape.length) {
            return no(1);
        }
        ModelReader reader = new ModelReader(Arrays.copyOf(tape, n));
        tape = new byte[0];
        World read = reader.read();
        fault = reader.fault;
        place = reader.place;
        if (read == null) {
            return no(9);
        }
        w = read;
        past.clear();
        return yes(w.hunters.size());
    }

    int fault(int what) {
        return what == 0 ? fault : what == 1 ? place : NONE;
    }

    int many(int what) {
        Map<Integer, Integer> all = new LinkedHashMap<>();
        all.put(0, w.quotas.size());
        all.put(1, w.hunters.size());
        all.put(2, w.parties().size());
        all.put(3, w.applicants.size());
        all.put(4, w.law);
        all.put(5, w.prefer);
        all.put(6, w.guests);
        all.put(7, w.draws);
        all.put(8, past.size());
        all.put(9, w.quotas.stream().mapToInt(q -> q).sum());
        all.put(10, (int) w.hunters.stream().filter(h -> h.guest).count());
        return all.containsKey(what) ? yes(all.get(what)) : no(1);
    }

    int hunter(int h, int what) {
        if (what < 0 || what > 4) {
            return no(1);
        }
        if (out(h, w.hunters)) {
            return no(2);
        }
        int a = w.applicantOf(h);
        int[] all = {w.hunters.get(h).points, w.hunters.get(h).guest ? 1 : 0,
            w.parties().indexOf(w.applicants.get(a)), a, w.hunters.get(h).has};
        return yes(all[what]);
    }

    int unit(int u, int what) {
        if (what < 0 || what > 5) {
            return no(1);
        }
        if (out(u, w.quotas)) {
            return no(2);
        }
        int first = 0;
        int heads = 0;
        int among = 0;
        for (int a = 0; a < w.applicants.size(); a++) {
            int at = w.choices(a).indexOf(u);
            first += at == 0 ? 1 : 0;
            heads += at == 0 ? w.size(a) : 0;
            among += at >= 0 ? 1 : 0;
        }
        return yes(new int[] {w.quotas.get(u), w.preferred(u), w.forGuests(u), first, heads, among}[what]);
    }

    int applicant(int a, int what) {
        if (what < 0 || what > 6) {
            return no(1);
        }
        if (out(a, w.applicants)) {
            return no(2);
        }
        int bits = 0;
        for (int h : w.applicants.get(a).hunters) {
            bits |= 1 << h;
        }
        return yes(new int[] {w.size(a), w.guestsOf(a), w.pointsOf(a), w.tickets(a), w.choices(a).size(), bits,
            w.parties().indexOf(w.applicants.get(a))}[what]);
    }

    int choice(int a, int k) {
        if (k < 0) {
            return no(1);
        }
        if (out(a, w.applicants)) {
            return no(2);
        }
        return k < w.choices(a).size() ? yes(w.choices(a).get(k)) : no(5);
    }

    private int term(int above, int below, int what) {
        int divisor = java.math.BigInteger.valueOf(above).gcd(java.math.BigInteger.valueOf(below)).intValue();
        return yes((what == 0 ? above : below) / divisor);
    }

    int demand(int u, int what) {
        if (what < 0 || what > 1) {
            return no(1);
        }
        if (out(u, w.quotas)) {
            return no(2);
        }
        return w.quotas.get(u) == 0 ? no(5) : term(unit(u, 4), w.quotas.get(u), what);
    }

    int share(int a, int what) {
        if (what < 0 || what > 1) {
            return no(1);
        }
        if (out(a, w.applicants)) {
            return no(2);
        }
        int all = 0;
        for (int b = 0; b < w.applicants.size(); b++) {
            all += w.tickets(b);
        }
        return term(w.tickets(a), all, what);
    }

    private Outcome by(int seed) {
        return w.outcome(w.orderOf(seed));
    }

    int order(int seed, int k) {
        if (noSeed(seed) || k < 0) {
            return no(1);
        }
        return k < w.applicants.size() ? yes(w.orderOf(seed).get(k)) : no(5);
    }

    int drawn(int seed, int a) {
        if (noSeed(seed)) {
            return no(1);
        }
        if (out(a, w.applicants)) {
            return no(2);
        }
        return by(seed).some(a) ? yes(by(seed).unit[a]) : no(5);
    }

    int round(int seed, int a) {
        if (noSeed(seed)) {
            return no(1);
        }
        if (out(a, w.applicants)) {
            return no(2);
        }
        return by(seed).some(a) ? yes(by(seed).round[a]) : no(5);
    }

    int left(int seed, int u, int what) {
        if (noSeed(seed) || what < 0 || what > 3) {
            return no(1);
        }
        if (out(u, w.quotas)) {
            return no(2);
        }
        Outcome o = by(seed);
        List<Integer> scores = new ArrayList<>();
        for (int a = 0; a < w.applicants.size(); a++) {
            if (o.unit[a] == u) {
                scores.add(w.pointsOf(a));
            }
        }
        if (what == 3) {
            return scores.isEmpty() ? no(5) : yes(scores.stream().min(Integer::compare).get());
        }
        return yes(new int[] {o.tags[u], o.guests[u], scores.size()}[what]);
    }

    int winners(int seed) {
        if (noSeed(seed)) {
            return no(1);
        }
        int bits = 0;
        for (int h = 0; h < w.hunters.size(); h++) {
            bits |= by(seed).some(w.applicantOf(h)) ? 1 << h : 0;
        }
        return yes(bits);
    }

    int waits(int seed, int u, int k) {
        if (noSeed(seed) || k < NONE) {
            return no(1);
        }
        if (out(u, w.quotas)) {
            return no(2);
        }
        List<Integer> row = by(seed).waiting(u);
        if (k == NONE) {
            return yes(row.size());
        }
        return k < row.size() ? yes(row.get(k)) : no(5);
    }

    int next(int seed, int u, int n) {
        if (noSeed(seed) || n < 0 || n > 20) {
            return no(1);
        }
        if (out(u, w.quotas)) {
            return no(2);
        }
        Outcome o = by(seed);
        for (int a : o.waiting(u)) {
            if (w.size(a) <= o.tags[u] + n && w.guestsOf(a) <= o.guests[u] + n) {
                return yes(a);
            }
        }
        return no(5);
    }

    int envies(int seed, int a) {
        if (noSeed(seed)) {
            return no(1);
        }
        if (out(a, w.applicants)) {
            return no(2);
        }
        Outcome o = by(seed);
        Set<Integer> wanted = new HashSet<>(w.choices(a).subList(0, o.ahead(a)));
        int bits = 0;
        for (int b = 0; b < w.applicants.size(); b++) {
            if (w.pointsOf(b) < w.pointsOf(a) && wanted.contains(o.unit[b])) {
                bits |= 1 << b;
            }
        }
        return yes(bits);
    }

    int spoils(int seed, int a) {
        if (noSeed(seed)) {
            return no(1);
        }
        if (out(a, w.applicants)) {
            return no(2);
        }
        Outcome o = by(seed);
        World without = w.copy();
        without.applicants.get(a).choices.clear();
        Outcome p = without.outcome(o.order);
        int bits = 0;
        for (int b = 0; b < w.applicants.size(); b++) {
            if (b != a && p.some(b) && p.ahead(b) < o.ahead(b)) {
                bits |= 1 << b;
            }
        }
        return yes(bits);
    }

    int behind(int seed, int h) {
        if (noSeed(seed)) {
            return no(1);
        }
        return out(h, w.hunters) ? no(2) : yes(by(seed).behind(h));
    }

    int lucky(int seed, int a) {
        if (noSeed(seed) || seed > 999_999_949) {
            return no(1);
        }
        if (out(a, w.applicants)) {
            return no(2);
        }
        for (int s = seed; s < seed + 50; s++) {
            if (by(s).first(a)) {
                return yes(s);
            }
        }
        return no(5);
    }

    long chance(int a, int what) {
        if (what < 0 || what > 2) {
            return no(1);
        }
        if (out(a, w.applicants)) {
            return no(2);
        }
        if (tooMany()) {
            return no(3);
        }
        return parts(chanceOf(w, o -> what == 0 ? o.some(a) : what == 1 ? o.first(a) : o.round[a] == 1));
    }

    long at(int a, int u) {
        if (out(a, w.applicants) || out(u, w.quotas)) {
            return no(2);
        }
        return tooMany() ? no(3) : parts(chanceOf(w, o -> o.unit[a] == u));
    }

    long both(int a, int other) {
        if (out(a, w.applicants) || out(other, w.applicants)) {
            return no(2);
        }
        if (a == other) {
            return no(4);
        }
        return tooMany() ? no(3) : parts(chanceOf(w, o -> o.some(a) && o.some(other)));
    }

    int sure(int what) {
        if (what < 0 || what > 1) {
            return no(1);
        }
        if (tooMany()) {
            return no(3);
        }
        int[] bits = {(1 << w.applicants.size()) - 1, (1 << w.applicants.size()) - 1};
        everyOrder(w, (o, p) -> {
            bits[0] &= o.set();
            bits[1] &= ~o.set();
        });
        return yes(bits[what]);
    }

    long mean(int u) {
        if (out(u, w.quotas)) {
            return no(2);
        }
        return tooMany() ? no(3) : parts(added(w, o -> w.quotas.get(u) - o.tags[u]));
    }

    int given(int what) {
        if (what < 0 || what > 1) {
            return no(1);
        }
        if (tooMany()) {
            return no(3);
        }
        int[] ends = {Integer.MAX_VALUE, 0};
        everyOrder(w, (o, p) -> {
            ends[0] = Math.min(ends[0], o.given());
            ends[1] = Math.max(ends[1], o.given());
        });
        return yes(ends[what]);
    }

    int ends() {
        if (tooMany()) {
            return no(3);
        }
        Set<Integer> sets = new HashSet<>();
        everyOrder(w, (o, p) -> sets.add(o.set()));
        return yes(sets.size());
    }

    int need(int h, int thousandths) {
        if (thousandths < 0 || thousandths > 1000) {
            return no(1);
        }
        if (out(h, w.hunters)) {
            return no(2);
        }
        int a = w.applicantOf(h);
        if (w.applicants.get(a).party) {
            return no(7);
        }
        if (tooMany()) {
            return no(3);
        }
        for (int p = 0; p <= 20; p++) {
            World other = w.copy();
            other.hunters.get(h).points = p;
            if (chanceOf(other, o -> o.some(a)) / 1_000_000_000L >= thousandths) {
                return yes(p);
            }
        }
        return no(5);
    }

    private long only(int a, int u) {
        World other = w.copy();
        other.applicants.get(a).choices = new ArrayList<>(List.of(u));
        return chanceOf(other, o -> o.some(a));
    }

    int wise(int a) {
        if (out(a, w.applicants)) {
            return no(2);
        }
        if (tooMany()) {
            return no(3);
        }
        int best = NONE;
        for (int u = 0; u < w.quotas.size(); u++) {
            if (best == NONE || only(a, u) > only(a, best)) {
                best = u;
            }
        }
        return best == NONE ? no(5) : yes(best);
    }

    long wiseChance(int a) {
        int u = wise(a);
        return u == NONE ? NONE : parts(only(a, u));
    }

    long together(int h, int other) {
        if (out(h, w.hunters) || out(other, w.hunters)) {
            return no(2);
        }
        if (h == other) {
            return no(4);
        }
        World joined = w.copy();
        Applicant one = joined.applicants.get(joined.applicantOf(h));
        Applicant two = joined.applicants.get(joined.applicantOf(other));
        if (one.party || two.party) {
            return no(7);
        }
        if (w.applicants.size() > 8) {
            return no(3);
        }
        Applicant party = new Applicant();
        party.party = true;
        party.hunters.addAll(List.of(h, other));
        party.choices = one.choices;
        joined.applicants.remove(one);
        joined.applicants.remove(two);
        joined.applicants.add(party);
        return parts(chanceOf(joined, o -> o.some(joined.applicants.size() - 1)));
    }

    long apart(int party) {
        if (out(party, w.parties())) {
            return no(2);
        }
        World alone = w.copy();
        Applicant group = alone.parties().get(party);
        alone.split(group);
        if (alone.applicants.size() > 7) {
            return no(3);
        }
        return parts(chanceOf(alone, o -> group.hunters.stream().allMatch(h -> o.some(alone.applicantOf(h)))));
    }

    int likes(int a) {
        if (out(a, w.applicants)) {
            return no(2);
        }
        if (tooMany()) {
            return no(3);
        }
        long[] by = new long[3];
        for (int law = 0; law < 3; law++) {
            World other = w.copy();
            other.law = law;
            by[law] = chanceOf(other, o -> o.some(a));
        }
        long most = Math.max(by[0], Math.max(by[1], by[2]));
        return yes(by[0] == most ? 0 : by[1] == most ? 1 : 2);
    }

    private List<Outcome> paper(int seed, int n) {
        List<Outcome> rows = new ArrayList<>();
        World year = w.copy();
        for (int y = 0; y < n; y++) {
            Outcome o = year.outcome(year.orderOf(seed + y));
            rows.add(o);
            year = year.copy();
            year.pass(o);
        }
        return rows;
    }

    private boolean noYears(int seed, int n) {
        return noSeed(seed) || n < 1 || n > 30 || seed + n > 999_999_999;
    }

    int years(int seed, int n, int what) {
        if (noYears(seed, n) || what < 0 || what > 2) {
            return no(1);
        }
        List<Outcome> rows = paper(seed, n);
        if (what == 0) {
            return yes(rows.stream().mapToInt(Outcome::given).sum());
        }
        int bits = 0;
        int longest = 0;
        for (int h = 0; h < w.hunters.size(); h++) {
            int a = w.applicantOf(h);
            bits |= rows.stream().noneMatch(o -> o.some(a)) ? 1 << h : 0;
            for (int from = 0; from < n; from++) {
                for (int to = from; to < n; to++) {
                    if (rows.subList(from, to + 1).stream().noneMatch(o -> o.some(a))) {
                        longest = Math.max(longest, to + 1 - from);
                    }
                }
            }
        }
        return yes(what == 1 ? bits : longest);
    }

    int often(int seed, int n, int h) {
        if (noYears(seed, n)) {
            return no(1);
        }
        if (out(h, w.hunters)) {
            return no(2);
        }
        return yes(paper(seed, n).stream().filter(o -> o.some(w.applicantOf(h))).count());
    }

    int soonest(int seed, int n, int h) {
        if (noYears(seed, n)) {
            return no(1);
        }
        if (out(h, w.hunters)) {
            return no(2);
        }
        List<Outcome> rows = paper(seed, n);
        for (int y = 0; y < n; y++) {
            if (rows.get(y).first(w.applicantOf(h))) {
                return yes(y + 1);
            }
        }
        return no(5);
    }

    private void act() {
        past.push(w.copy());
        if (past.size() > 8) {
            past.removeLast();
        }
    }

    int draw(int seed) {
        if (noSeed(seed)) {
            return no(1);
        }
        act();
        Outcome o = by(seed);
        int all = o.given();
        w.pass(o);
        w.draws++;
        return yes(all);
    }

    int points(int h, int p) {
        if (p < 0 || p > 20) {
            return no(1);
        }
        if (out(h, w.hunters)) {
            return no(2);
        }
        int was = w.hunters.get(h).points;
        if (was == p) {
            return no(4);
        }
        act();
        w.hunters.get(h).points = p;
        return yes(was);
    }

    int quota(int u, int q) {
        if (q < 0 || q > 20) {
            return no(1);
        }
        if (out(u, w.quotas)) {
            return no(2);
        }
        if (w.quotas.get(u) == q) {
            return no(4);
        }
        act();
        return yes(w.quotas.set(u, q));
    }

    int choose(int a, int u, int v, int c) {
        List<Integer> row = new ArrayList<>();
        boolean ended = false;
        for (int x : new int[] {u, v, c}) {
            if (x == NONE) {
                ended = true;
            } else if (ended || row.contains(x)) {
                return no(1);
            } else {
                row.add(x);
            }
        }
        if (out(a, w.applicants) || row.stream().anyMatch(x -> out(x, w.quotas))) {
            return no(2);
        }
        List<Integer> was = w.choices(a);
        if (was.equals(row)) {
            return no(4);
        }
        act();
        w.applicants.get(a).choices = row;
        return yes(was.size());
    }

    int law(int law) {
        if (law < 0 || law > 2) {
            return no(1);
        }
        int was = w.law;
        if (was == law) {
            return no(4);
        }
        act();
        w.law = law;
        return yes(was);
    }

    int prefer(int n) {
        if (n < 0 || n > 100) {
            return no(1);
        }
        int was = w.prefer;
        if (was == n) {
            return no(4);
        }
        act();
        w.prefer = n;
        return yes(was);
    }

    int guests(int n) {
        if (n < 0 || n > 100) {
            return no(1);
        }
        int was = w.guests;
        if (was == n) {
            return no(4);
        }
        act();
        w.guests = n;
        return yes(was);
    }

    int split(int party) {
        if (out(party, w.parties())) {
            return no(2);
        }
        act();
        w.split(w.parties().get(party));
        return yes(w.applicants.size());
    }

    int undo() {
        if (past.isEmpty()) {
            return no(5);
        }
        w = past.pop();
        return yes(past.size());
    }

    int print(int seed) {
        if (noSeed(seed)) {
            return no(1);
        }
        Outcome o = by(seed);
        out = "";
        for (int a : o.order) {
            out += a + "=" + (o.some(a) ? "" + o.unit[a] : "-") + (o.round[a] == 1 ? "!" : "") + ";";
        }
        return yes(out.length());
    }

    int out(int i) {
        if (i < 0) {
            return no(1);
        }
        return out == null || i >= out.length() ? no(5) : yes(out.charAt(i));
    }
}
