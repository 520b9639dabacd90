/** Tags for hunters by a draw; ../shared/DOC.md says what each call answers, and what the words in capitals mean. */
public final class TagDraw {
    public static final int NONE = -1;

    private static final int MAX_UNITS = 5;
    private static final int MAX_HUNTERS = 10;
    private static final int MAX_PARTIES = 4;
    private static final int MAX_SIZE = 4;
    private static final int MAX_CHOICES = 3;
    private static final int MAX_COUNT = 20;
    private static final int MAX_PERCENT = 100;
    private static final int MAX_THOUSANDTHS = 1000;
    private static final int MAX_SEED = 999999999;
    private static final int MAX_YEARS = 30;
    private static final int MAX_BYTES = 700;
    private static final int MAX_ACTS = 8;
    private static final int LUCKY_SEEDS = 50;
    private static final int PRINTED_BYTES = 5;

    /** More APPLICANTS than these have too many ORDERS to go through. */
    private static final int MAX_ORDERED = 7;
    private static final int MAX_SETS = 128;
    private static final long ALL_PARTS = 1000000000000L;
    private static final long THOUSANDTH = 1000000000L;

    private static final int LINE = 1;
    private static final int SQUARE = 2;

    private static final int DONE = 0;
    private static final int CANT_BE = 1;
    private static final int NO_SUCH = 2;
    private static final int TOO_MANY = 3;
    private static final int SO_ALREADY = 4;
    private static final int NOT_THERE = 5;
    private static final int AS_TOLD = 7;
    private static final int FAULTY = 9;

    private int status;
    private int tapeLength;
    private int outLength;
    /** Whether odds is of the list as it stands now. */
    private boolean reckoned;
    private final int[] tape = new int[MAX_BYTES];
    private final int[] out = new int[MAX_HUNTERS * PRINTED_BYTES];
    private final Reader reader = new Reader();
    private final Register list = new Register();
    private final Past past = new Past();
    private final Pool pool = new Pool();
    private final Result result = new Result();
    private final Odds odds = new Odds();
    private final Years paper = new Years();

    // What would be, if something was otherwise: worked out here, so that the list itself stays as it is.
    private final Register trial = new Register();
    private final Pool trialPool = new Pool();
    private final Result trialResult = new Result();
    private final Odds trialOdds = new Odds();

    public TagDraw() {
        list.clear();
        pool.gather(list);
        outLength = NONE;
    }

    public int status() {
        return status;
    }

    // ---- the tape

    public int feed(int a, int b, int c, int d, int e) {
        if (tapeLength + 20 > MAX_BYTES) {
            return NONE;
        }
        append(a);
        append(b);
        append(c);
        append(d);
        append(e);
        return tapeLength;
    }

    private void append(int four) {
        for (int shift = 24; shift >= 0; shift -= 8) {
            put(tape, tapeLength, (four >>> shift) & 255);
            tapeLength++;
        }
    }

    public int load(int n) {
        if (n < 0 || n > tapeLength) {
            return refuse(CANT_BE);
        }
        boolean sound = reader.read(tape, n);
        tapeLength = 0;
        if (!sound) {
            return refuse(FAULTY);
        }
        list.take(reader.draft);
        past.forget();
        return changed(list.hunters);
    }

    public int fault(int what) {
        if (what == 0) {
            return reader.fault;
        }
        return what == 1 ? reader.place : NONE;
    }

    // ---- who there is

    public int many(int what) {
        switch (what) {
            case 0: return answer(list.units);
            case 1: return answer(list.hunters);
            case 2: return answer(list.parties);
            case 3: return answer(pool.count);
            case 4: return answer(list.ticketLaw);
            case 5: return answer(list.preferPart);
            case 6: return answer(list.guestPart);
            case 7: return answer(list.draws);
            case 8: return answer(past.kept);
            case 9: return answer(sum(list.quota));
            case 10: return answer(sum(list.guest));
            default: return refuse(CANT_BE);
        }
    }

    public int hunter(int h, int what) {
        if (what < 0 || what > 4) {
            return refuse(CANT_BE);
        }
        if (!isHunter(h)) {
            return refuse(NO_SUCH);
        }
        switch (what) {
            case 0: return answer(cell(list.score, h));
            case 1: return answer(cell(list.guest, h));
            case 2: return answer(cell(list.party, h));
            case 3: return answer(cell(pool.applicantOf, h));
            default: return answer(cell(list.has, h));
        }
    }

    public int unit(int u, int what) {
        if (what < 0 || what > 5) {
            return refuse(CANT_BE);
        }
        if (!isUnit(u)) {
            return refuse(NO_SUCH);
        }
        switch (what) {
            case 0: return answer(cell(list.quota, u));
            case 1: return answer(cell(pool.preferred, u));
            case 2: return answer(cell(pool.forGuests, u));
            case 3: return answer(pool.firstApplicants(u));
            case 4: return answer(pool.firstHunters(u));
            default: return answer(pool.askers(u));
        }
    }

    public int applicant(int a, int what) {
        if (what < 0 || what > 6) {
            return refuse(CANT_BE);
        }
        if (!isApplicant(a)) {
            return refuse(NO_SUCH);
        }
        switch (what) {
            case 0: return answer(cell(pool.size, a));
            case 1: return answer(cell(pool.guestCount, a));
            case 2: return answer(cell(pool.score, a));
            case 3: return answer(cell(pool.tickets, a));
            case 4: return answer(cell(pool.wishCount, a));
            case 5: return answer(cell(pool.bits, a));
            default: return answer(cell(pool.party, a));
        }
    }

    public int choice(int a, int k) {
        if (k < 0) {
            return refuse(CANT_BE);
        }
        if (!isApplicant(a)) {
            return refuse(NO_SUCH);
        }
        if (k >= cell(pool.wishCount, a)) {
            return refuse(NOT_THERE);
        }
        return answer(pool.wish(a, k));
    }

    public int demand(int u, int what) {
        if (what < 0 || what > 1) {
            return refuse(CANT_BE);
        }
        if (!isUnit(u)) {
            return refuse(NO_SUCH);
        }
        if (cell(list.quota, u) == 0) {
            return refuse(NOT_THERE);
        }
        return answer(lowest(pool.firstHunters(u), cell(list.quota, u), what));
    }

    public int share(int a, int what) {
        if (what < 0 || what > 1) {
            return refuse(CANT_BE);
        }
        if (!isApplicant(a)) {
            return refuse(NO_SUCH);
        }
        return answer(lowest(cell(pool.tickets, a), pool.allTickets, what));
    }

    // ---- by a seed

    public int order(int seed, int k) {
        if (!isSeed(seed) || k < 0) {
            return refuse(CANT_BE);
        }
        if (k >= pool.count) {
            return refuse(NOT_THERE);
        }
        result.lineUp(pool, seed);
        return answer(cell(result.line, k));
    }

    public int drawn(int seed, int a) {
        if (!isSeed(seed)) {
            return refuse(CANT_BE);
        }
        if (!isApplicant(a)) {
            return refuse(NO_SUCH);
        }
        result.bySeed(pool, seed);
        int u = cell(result.unitOf, a);
        return u == NONE ? refuse(NOT_THERE) : answer(u);
    }

    public int round(int seed, int a) {
        if (!isSeed(seed)) {
            return refuse(CANT_BE);
        }
        if (!isApplicant(a)) {
            return refuse(NO_SUCH);
        }
        result.bySeed(pool, seed);
        return cell(result.unitOf, a) == NONE ? refuse(NOT_THERE) : answer(cell(result.roundOf, a));
    }

    public int left(int seed, int u, int what) {
        if (!isSeed(seed) || what < 0 || what > 3) {
            return refuse(CANT_BE);
        }
        if (!isUnit(u)) {
            return refuse(NO_SUCH);
        }
        result.bySeed(pool, seed);
        switch (what) {
            case 0: return answer(cell(result.leftTags, u));
            case 1: return answer(cell(result.leftGuests, u));
            case 2: return answer(result.holders(pool, u));
            default: break;
        }
        int fewest = result.fewestPoints(pool, u);
        return fewest == NONE ? refuse(NOT_THERE) : answer(fewest);
    }

    public int winners(int seed) {
        if (!isSeed(seed)) {
            return refuse(CANT_BE);
        }
        result.bySeed(pool, seed);
        int hunters = 0;
        for (int a = 0; a < pool.count; a++) {
            if (cell(result.unitOf, a) != NONE) {
                hunters |= cell(pool.bits, a);
            }
        }
        return answer(hunters);
    }

    public int waits(int seed, int u, int k) {
        if (!isSeed(seed) || k < NONE) {
            return refuse(CANT_BE);
        }
        if (!isUnit(u)) {
            return refuse(NO_SUCH);
        }
        result.bySeed(pool, seed);
        int waiting = 0;
        for (int i = 0; i < pool.count; i++) {
            int a = cell(result.line, i);
            if (!result.isWaiting(pool, a, u)) {
                continue;
            }
            if (waiting == k) {
                return answer(a);
            }
            waiting++;
        }
        return k == NONE ? answer(waiting) : refuse(NOT_THERE);
    }

    public int next(int seed, int u, int n) {
        if (!isSeed(seed) || n < 0 || n > MAX_COUNT) {
            return refuse(CANT_BE);
        }
        if (!isUnit(u)) {
            return refuse(NO_SUCH);
        }
        result.bySeed(pool, seed);
        int tags = cell(result.leftTags, u) + n;
        int guests = cell(result.leftGuests, u) + n;
        for (int i = 0; i < pool.count; i++) {
            int a = cell(result.line, i);
            if (result.isWaiting(pool, a, u) && pool.fits(a, tags, guests)) {
                return answer(a);
            }
        }
        return refuse(NOT_THERE);
    }

    public int envies(int seed, int a) {
        if (!isSeed(seed)) {
            return refuse(CANT_BE);
        }
        if (!isApplicant(a)) {
            return refuse(NO_SUCH);
        }
        result.bySeed(pool, seed);
        int envied = 0;
        for (int b = 0; b < pool.count; b++) {
            int u = cell(result.unitOf, b);
            if (u == NONE || cell(pool.score, b) >= cell(pool.score, a)) {
                continue;
            }
            int rank = pool.rankOf(a, u);
            if (rank != NONE && rank < result.rankHeld(pool, a)) {
                envied |= 1 << b;
            }
        }
        return answer(envied);
    }

    public int spoils(int seed, int a) {
        if (!isSeed(seed)) {
            return refuse(CANT_BE);
        }
        if (!isApplicant(a)) {
            return refuse(NO_SUCH);
        }
        result.bySeed(pool, seed);
        trial.take(list);
        trial.wishFor(cell(pool.bits, a), NONE, NONE, NONE);
        trialPool.gather(trial);
        // CHOICES give no TICKETS, so the same SEED gives the same ORDER.
        trialResult.bySeed(trialPool, seed);
        int spoiled = 0;
        for (int b = 0; b < pool.count; b++) {
            if (b != a && trialResult.rankHeld(trialPool, b) < result.rankHeld(pool, b)) {
                spoiled |= 1 << b;
            }
        }
        return answer(spoiled);
    }

    public int behind(int seed, int h) {
        if (!isSeed(seed)) {
            return refuse(CANT_BE);
        }
        if (!isHunter(h)) {
            return refuse(NO_SUCH);
        }
        result.bySeed(pool, seed);
        return answer(result.scoreBehind(pool, cell(pool.applicantOf, h), cell(list.score, h)));
    }

    public int lucky(int seed, int a) {
        if (!isSeed(seed) || seed > MAX_SEED - LUCKY_SEEDS) {
            return refuse(CANT_BE);
        }
        if (!isApplicant(a)) {
            return refuse(NO_SUCH);
        }
        for (int i = 0; i < LUCKY_SEEDS; i++) {
            result.bySeed(pool, seed + i);
            if (result.hasFirst(pool, a)) {
                return answer(seed + i);
            }
        }
        return refuse(NOT_THERE);
    }

    // ---- by all orders

    public long chance(int a, int what) {
        if (what < 0 || what > 2) {
            return refuse(CANT_BE);
        }
        if (!isApplicant(a)) {
            return refuse(NO_SUCH);
        }
        if (pool.count > MAX_ORDERED) {
            return refuse(TOO_MANY);
        }
        reckon();
        switch (what) {
            case 0: return answerParts(odds.anyUnit(a));
            case 1: return answerParts(cell(pool.wishCount, a) == 0 ? 0 : odds.certainUnit(a, pool.wish(a, 0)));
            default: return answerParts(bigCell(odds.early, a));
        }
    }

    public long at(int a, int u) {
        if (!isApplicant(a) || !isUnit(u)) {
            return refuse(NO_SUCH);
        }
        if (pool.count > MAX_ORDERED) {
            return refuse(TOO_MANY);
        }
        reckon();
        return answerParts(odds.certainUnit(a, u));
    }

    public long both(int a, int other) {
        if (!isApplicant(a) || !isApplicant(other)) {
            return refuse(NO_SUCH);
        }
        if (a == other) {
            return refuse(SO_ALREADY);
        }
        if (pool.count > MAX_ORDERED) {
            return refuse(TOO_MANY);
        }
        reckon();
        return answerParts(odds.allOf(1 << a | 1 << other));
    }

    public int sure(int what) {
        if (what < 0 || what > 1) {
            return refuse(CANT_BE);
        }
        if (pool.count > MAX_ORDERED) {
            return refuse(TOO_MANY);
        }
        reckon();
        int everyone = (1 << pool.count) - 1;
        return answer(what == 0 ? odds.always() : everyone & ~odds.ever());
    }

    public long mean(int u) {
        if (!isUnit(u)) {
            return refuse(NO_SUCH);
        }
        if (pool.count > MAX_ORDERED) {
            return refuse(TOO_MANY);
        }
        reckon();
        long tags = 0;
        for (int a = 0; a < pool.count; a++) {
            tags += cell(pool.size, a) * odds.certainUnit(a, u);
        }
        return answerParts(tags);
    }

    public int given(int what) {
        if (what < 0 || what > 1) {
            return refuse(CANT_BE);
        }
        if (pool.count > MAX_ORDERED) {
            return refuse(TOO_MANY);
        }
        reckon();
        return answer(what == 0 ? odds.fewestTags(pool) : odds.mostTags(pool));
    }

    public int ends() {
        if (pool.count > MAX_ORDERED) {
            return refuse(TOO_MANY);
        }
        reckon();
        return answer(sum(odds.seen));
    }

    public int need(int h, int thousandths) {
        if (thousandths < 0 || thousandths > MAX_THOUSANDTHS) {
            return refuse(CANT_BE);
        }
        if (!isHunter(h)) {
            return refuse(NO_SUCH);
        }
        if (cell(list.party, h) != NONE) {
            return refuse(AS_TOLD);
        }
        if (pool.count > MAX_ORDERED) {
            return refuse(TOO_MANY);
        }
        int a = cell(pool.applicantOf, h);
        trial.take(list);
        for (int p = 0; p <= MAX_COUNT; p++) {
            put(trial.score, h, p);
            trialPool.gather(trial);
            trialOdds.reckon(trialPool);
            if (trialOdds.anyUnit(a) / THOUSANDTH >= thousandths) {
                return answer(p);
            }
        }
        return refuse(NOT_THERE);
    }

    public int wise(int a) {
        int why = whyNotWise(a);
        if (why != DONE) {
            return refuse(why);
        }
        int best = 0;
        long most = NONE;
        for (int u = 0; u < list.units; u++) {
            long parts = partsOfOnly(a, u);
            if (parts > most) {
                most = parts;
                best = u;
            }
        }
        return answer(best);
    }

    public long wiseChance(int a) {
        int why = whyNotWise(a);
        if (why != DONE) {
            return refuse(why);
        }
        long most = 0;
        for (int u = 0; u < list.units; u++) {
            most = Math.max(most, partsOfOnly(a, u));
        }
        return answerParts(most);
    }

    private int whyNotWise(int a) {
        if (!isApplicant(a)) {
            return NO_SUCH;
        }
        if (pool.count > MAX_ORDERED) {
            return TOO_MANY;
        }
        return list.units == 0 ? NOT_THERE : DONE;
    }

    private long partsOfOnly(int a, int u) {
        trial.take(list);
        trial.wishFor(cell(pool.bits, a), u, NONE, NONE);
        trialPool.gather(trial);
        trialOdds.reckon(trialPool);
        return trialOdds.anyUnit(a);
    }

    public long together(int h, int other) {
        if (!isHunter(h) || !isHunter(other)) {
            return refuse(NO_SUCH);
        }
        if (h == other) {
            return refuse(SO_ALREADY);
        }
        if (cell(list.party, h) != NONE || cell(list.party, other) != NONE) {
            return refuse(AS_TOLD);
        }
        if (pool.count > MAX_ORDERED + 1) {
            return refuse(TOO_MANY);
        }
        trial.take(list);
        trial.join(h, other);
        trialPool.gather(trial);
        trialOdds.reckon(trialPool);
        return answerParts(trialOdds.anyUnit(cell(trialPool.applicantOf, h)));
    }

    public long apart(int party) {
        if (!isParty(party)) {
            return refuse(NO_SUCH);
        }
        trial.take(list);
        trial.dissolve(party);
        trialPool.gather(trial);
        if (trialPool.count > MAX_ORDERED) {
            return refuse(TOO_MANY);
        }
        trialOdds.reckon(trialPool);
        int alone = 0;
        for (int h = 0; h < list.hunters; h++) {
            if (cell(list.party, h) == party) {
                alone |= 1 << cell(trialPool.applicantOf, h);
            }
        }
        return answerParts(trialOdds.allOf(alone));
    }

    public int likes(int a) {
        if (!isApplicant(a)) {
            return refuse(NO_SUCH);
        }
        if (pool.count > MAX_ORDERED) {
            return refuse(TOO_MANY);
        }
        int best = 0;
        long most = NONE;
        trial.take(list);
        for (int law = 0; law <= SQUARE; law++) {
            trial.ticketLaw = law;
            trialPool.gather(trial);
            trialOdds.reckon(trialPool);
            long parts = trialOdds.anyUnit(a);
            if (parts > most) {
                most = parts;
                best = law;
            }
        }
        return answer(best);
    }

    private void reckon() {
        if (!reckoned) {
            odds.reckon(pool);
            reckoned = true;
        }
    }

    // ---- years on paper

    public int years(int seed, int n, int what) {
        if (!areYears(seed, n) || what < 0 || what > 2) {
            return refuse(CANT_BE);
        }
        paper.pass(list, seed, n);
        switch (what) {
            case 0: return answer(paper.tags);
            case 1: return answer(paper.unserved(list.hunters));
            default: return answer(paper.longestDry);
        }
    }

    public int often(int seed, int n, int h) {
        if (!areYears(seed, n)) {
            return refuse(CANT_BE);
        }
        if (!isHunter(h)) {
            return refuse(NO_SUCH);
        }
        paper.pass(list, seed, n);
        return answer(cell(paper.times, h));
    }

    public int soonest(int seed, int n, int h) {
        if (!areYears(seed, n)) {
            return refuse(CANT_BE);
        }
        if (!isHunter(h)) {
            return refuse(NO_SUCH);
        }
        paper.pass(list, seed, n);
        int year = cell(paper.firstWish, h);
        return year == 0 ? refuse(NOT_THERE) : answer(year);
    }

    private static boolean areYears(int seed, int n) {
        return isSeed(seed) && n >= 1 && n <= MAX_YEARS && seed <= MAX_SEED - n;
    }

    // ---- acts

    public int draw(int seed) {
        if (!isSeed(seed)) {
            return refuse(CANT_BE);
        }
        past.keep(list);
        result.bySeed(pool, seed);
        list.live(pool, result);
        list.draws++;
        return changed(result.tagsGiven(pool));
    }

    public int points(int h, int p) {
        if (p < 0 || p > MAX_COUNT) {
            return refuse(CANT_BE);
        }
        if (!isHunter(h)) {
            return refuse(NO_SUCH);
        }
        int was = cell(list.score, h);
        if (was == p) {
            return refuse(SO_ALREADY);
        }
        past.keep(list);
        put(list.score, h, p);
        return changed(was);
    }

    public int quota(int u, int q) {
        if (q < 0 || q > MAX_COUNT) {
            return refuse(CANT_BE);
        }
        if (!isUnit(u)) {
            return refuse(NO_SUCH);
        }
        int was = cell(list.quota, u);
        if (was == q) {
            return refuse(SO_ALREADY);
        }
        past.keep(list);
        put(list.quota, u, q);
        return changed(was);
    }

    public int choose(int a, int u, int v, int w) {
        if (u == NONE && v != NONE || v == NONE && w != NONE) {
            return refuse(CANT_BE);
        }
        if (u != NONE && (u == v || u == w) || v != NONE && v == w) {
            return refuse(CANT_BE);
        }
        if (!isApplicant(a) || !isUnitOrNone(u) || !isUnitOrNone(v) || !isUnitOrNone(w)) {
            return refuse(NO_SUCH);
        }
        if (pool.wish(a, 0) == u && pool.wish(a, 1) == v && pool.wish(a, 2) == w) {
            return refuse(SO_ALREADY);
        }
        int was = cell(pool.wishCount, a);
        past.keep(list);
        list.wishFor(cell(pool.bits, a), u, v, w);
        return changed(was);
    }

    public int law(int law) {
        if (law < 0 || law > SQUARE) {
            return refuse(CANT_BE);
        }
        int was = list.ticketLaw;
        if (was == law) {
            return refuse(SO_ALREADY);
        }
        past.keep(list);
        list.ticketLaw = law;
        return changed(was);
    }

    public int prefer(int n) {
        if (n < 0 || n > MAX_PERCENT) {
            return refuse(CANT_BE);
        }
        int was = list.preferPart;
        if (was == n) {
            return refuse(SO_ALREADY);
        }
        past.keep(list);
        list.preferPart = n;
        return changed(was);
    }

    public int guests(int n) {
        if (n < 0 || n > MAX_PERCENT) {
            return refuse(CANT_BE);
        }
        int was = list.guestPart;
        if (was == n) {
            return refuse(SO_ALREADY);
        }
        past.keep(list);
        list.guestPart = n;
        return changed(was);
    }

    public int split(int party) {
        if (!isParty(party)) {
            return refuse(NO_SUCH);
        }
        past.keep(list);
        list.dissolve(party);
        changed(0);
        return answer(pool.count);
    }

    public int undo() {
        if (!past.giveBack(list)) {
            return refuse(NOT_THERE);
        }
        return changed(past.kept);
    }

    public int print(int seed) {
        if (!isSeed(seed)) {
            return refuse(CANT_BE);
        }
        result.bySeed(pool, seed);
        outLength = 0;
        for (int k = 0; k < pool.count; k++) {
            int a = cell(result.line, k);
            int u = cell(result.unitOf, a);
            write('0' + a);
            write('=');
            write(u == NONE ? '-' : '0' + u);
            if (cell(result.roundOf, a) == 1) {
                write('!');
            }
            write(';');
        }
        return answer(outLength);
    }

    private void write(int sign) {
        put(out, outLength, sign);
        outLength++;
    }

    public int out(int i) {
        if (i < 0) {
            return refuse(CANT_BE);
        }
        return i >= outLength ? refuse(NOT_THERE) : answer(cell(out, i));
    }

    // ---- what every call needs

    private int answer(int value) {
        status = DONE;
        return value;
    }

    private long answerParts(long parts) {
        status = DONE;
        return parts;
    }

    private int refuse(int why) {
        status = why;
        return NONE;
    }

    /** Ends a call that has changed the list. */
    private int changed(int value) {
        pool.gather(list);
        reckoned = false;
        return answer(value);
    }

    private boolean isUnit(int u) {
        return u >= 0 && u < list.units;
    }

    private boolean isUnitOrNone(int u) {
        return u == NONE || isUnit(u);
    }

    private boolean isHunter(int h) {
        return h >= 0 && h < list.hunters;
    }

    private boolean isParty(int p) {
        return p >= 0 && p < list.parties;
    }

    private boolean isApplicant(int a) {
        return a >= 0 && a < pool.count;
    }

    private static boolean isSeed(int seed) {
        return seed >= 0 && seed <= MAX_SEED;
    }

    // ---- rows, read and written only where they have a place

    private static int cell(int[] row, int i) {
        return i >= 0 && i < row.length ? row[i] : 0;
    }

    private static long bigCell(long[] row, int i) {
        return i >= 0 && i < row.length ? row[i] : 0;
    }

    private static void put(int[] row, int i, int value) {
        if (i >= 0 && i < row.length) {
            row[i] = value;
        }
    }

    private static void bigPut(long[] row, int i, long value) {
        if (i >= 0 && i < row.length) {
            row[i] = value;
        }
    }

    private static void add(int[] row, int i, int more) {
        if (i >= 0 && i < row.length) {
            row[i] += more;
        }
    }

    private static void bigAdd(long[] row, int i, long more) {
        if (i >= 0 && i < row.length) {
            row[i] += more;
        }
    }

    private static void fill(int[] row, int value) {
        for (int i = 0; i < row.length; i++) {
            row[i] = value;
        }
    }

    private static void bigFill(long[] row, long value) {
        for (int i = 0; i < row.length; i++) {
            row[i] = value;
        }
    }

    private static void copy(int[] from, int[] to) {
        for (int i = 0; i < to.length; i++) {
            to[i] = cell(from, i);
        }
    }

    private static int sum(int[] row) {
        int all = 0;
        for (int i = 0; i < row.length; i++) {
            all += row[i];
        }
        return all;
    }

    /** What stands above (0) or below (1) in lowest terms. */
    private static int lowest(int above, int below, int what) {
        int divisor = commonDivisor(above, below);
        int term = what == 0 ? above : below;
        return divisor == 0 ? term : term / divisor;
    }

    private static int commonDivisor(int a, int b) {
        int large = a;
        int small = b;
        for (int i = 0; i < 100 && small != 0; i++) {
            int rest = large % small;
            large = small;
            small = rest;
        }
        return large;
    }

    /**
     * A LIST as it stands: what load() told and ACTS change. Each HUNTER of a PARTY carries the
     * CHOICES of the PARTY, so that one who leaves it has them still.
     */
    private static final class Register {
        int units;
        int hunters;
        int parties;
        int ticketLaw;
        int preferPart;
        int guestPart;
        int draws;
        final int[] quota = new int[MAX_UNITS];
        final int[] score = new int[MAX_HUNTERS];
        final int[] guest = new int[MAX_HUNTERS];
        final int[] party = new int[MAX_HUNTERS];
        final int[] wishCount = new int[MAX_HUNTERS];
        final int[] wishes = new int[MAX_HUNTERS * MAX_CHOICES];
        /** The UNIT by the latest draw(). */
        final int[] has = new int[MAX_HUNTERS];

        void clear() {
            units = 0;
            hunters = 0;
            parties = 0;
            ticketLaw = 0;
            preferPart = 0;
            guestPart = MAX_PERCENT;
            draws = 0;
            fill(quota, 0);
            fill(score, 0);
            fill(guest, 0);
            fill(party, NONE);
            fill(wishCount, 0);
            fill(wishes, NONE);
            fill(has, NONE);
        }

        void take(Register from) {
            units = from.units;
            hunters = from.hunters;
            parties = from.parties;
            ticketLaw = from.ticketLaw;
            preferPart = from.preferPart;
            guestPart = from.guestPart;
            draws = from.draws;
            copy(from.quota, quota);
            copy(from.score, score);
            copy(from.guest, guest);
            copy(from.party, party);
            copy(from.wishCount, wishCount);
            copy(from.wishes, wishes);
            copy(from.has, has);
        }

        void addUnit(int tags) {
            put(quota, units, tags);
            units++;
        }

        void addHunter(int points, boolean isGuest) {
            put(score, hunters, points);
            put(guest, hunters, isGuest ? 1 : 0);
            hunters++;
        }

        void addParty(int bits) {
            for (int h = 0; h < hunters; h++) {
                if ((bits >> h & 1) == 1) {
                    put(party, h, parties);
                }
            }
            parties++;
        }

        void join(int h, int other) {
            int at = h * MAX_CHOICES;
            wishFor(1 << other, cell(wishes, at), cell(wishes, at + 1), cell(wishes, at + 2));
            addParty(1 << h | 1 << other);
        }

        void dissolve(int p) {
            for (int h = 0; h < hunters; h++) {
                int mine = cell(party, h);
                if (mine == p) {
                    put(party, h, NONE);
                } else if (mine > p) {
                    put(party, h, mine - 1);
                }
            }
            parties--;
        }

        /** Gives HUNTERS, told as bits, the CHOICES that are not NONE. */
        void wishFor(int bits, int u, int v, int w) {
            int count = (u == NONE ? 0 : 1) + (v == NONE ? 0 : 1) + (w == NONE ? 0 : 1);
            for (int h = 0; h < hunters; h++) {
                if ((bits >> h & 1) == 1) {
                    put(wishCount, h, count);
                    put(wishes, h * MAX_CHOICES, u);
                    put(wishes, h * MAX_CHOICES + 1, v);
                    put(wishes, h * MAX_CHOICES + 2, w);
                }
            }
        }

        /** Lets a YEAR go by with this RESULT. */
        void live(Pool pool, Result result) {
            for (int h = 0; h < hunters; h++) {
                int a = cell(pool.applicantOf, h);
                put(score, h, result.scoreBehind(pool, a, cell(score, h)));
                put(has, h, cell(result.unitOf, a));
            }
        }
    }

    /** The list as it stood ahead of each of the latest ACTS; the oldest makes room. */
    private static final class Past {
        int kept;
        int newest;
        final Register[] stood = new Register[MAX_ACTS];

        Past() {
            for (int i = 0; i < stood.length; i++) {
                stood[i] = new Register();
            }
        }

        void forget() {
            kept = 0;
        }

        void keep(Register list) {
            newest = newest + 1 < MAX_ACTS ? newest + 1 : 0;
            Register place = newestStood();
            if (place == null) {
                return;
            }
            place.take(list);
            kept = Math.min(kept + 1, MAX_ACTS);
        }

        boolean giveBack(Register list) {
            Register place = newestStood();
            if (kept == 0 || place == null) {
                return false;
            }
            list.take(place);
            kept--;
            newest = newest > 0 ? newest - 1 : MAX_ACTS - 1;
            return true;
        }

        private Register newestStood() {
            return newest >= 0 && newest < stood.length ? stood[newest] : null;
        }
    }

    /** Reads a TEXT, TOKEN by TOKEN, into a draft of a LIST. */
    private static final class Reader {
        private static final int END = 0;
        private static final int WORD = 1;
        private static final int NUMBER = 2;
        private static final int SIGN = 3;
        private static final int NO_TOKEN = 4;

        private static final int FAULT_NO_TOKEN = 1;
        private static final int FAULT_STAND = 2;
        private static final int FAULT_NUMBER = 3;
        private static final int FAULT_NAME = 4;

        private static final int LONGEST_WORD = 8;
        private static final int LONGEST_NUMBER = 3;

        final Register draft = new Register();
        int fault = NONE;
        int place = NONE;
        private final int[] text = new int[MAX_BYTES];
        private int length;
        private int next;
        private int kind;
        private int start;
        /** The latest WORD's letters as one number, and the latest NUMBER. */
        private long letters;
        private int number;
        /** The NAME that this LINE gives. */
        private long newName;
        private boolean hasLaw;
        private boolean hasPrefer;
        private boolean hasGuests;
        private final long[] unitNames = new long[MAX_UNITS];
        private final long[] hunterNames = new long[MAX_HUNTERS];
        private final long[] partyNames = new long[MAX_PARTIES];
        private final int[] asked = new int[MAX_CHOICES];

        boolean read(int[] tape, int n) {
            copy(tape, text);
            length = Math.min(n, MAX_BYTES);
            next = 0;
            hasLaw = false;
            hasPrefer = false;
            hasGuests = false;
            draft.clear();
            fault = 0;
            place = NONE;
            step();
            for (int lines = 0; lines < MAX_BYTES && kind != END; lines++) {
                if (!readLine()) {
                    return false;
                }
            }
            return true;
        }

        // ---- TOKENS

        private void step() {
            while (next < length && isBlank(cell(text, next))) {
                next++;
            }
            start = next;
            int sign = cell(text, next);
            if (next >= length) {
                kind = END;
            } else if (isLetter(sign)) {
                stepWord();
            } else if (isDigit(sign)) {
                stepNumber();
            } else if (sign == ';') {
                kind = SIGN;
                next++;
            } else {
                kind = NO_TOKEN;
            }
        }

        private void stepWord() {
            letters = 0;
            while (next < length && isLetter(cell(text, next))) {
                letters = letters * 27 + (cell(text, next) - 'a' + 1);
                next++;
            }
            kind = next - start <= LONGEST_WORD ? WORD : NO_TOKEN;
        }

        private void stepNumber() {
            number = 0;
            while (next < length && isDigit(cell(text, next))) {
                number = number * 10 + (cell(text, next) - '0');
                next++;
            }
            kind = next - start <= LONGEST_NUMBER ? NUMBER : NO_TOKEN;
        }

        private static boolean isBlank(int sign) {
            return sign == 10 || sign == 32;
        }

        private static boolean isLetter(int sign) {
            return sign >= 'a' && sign <= 'z';
        }

        private static boolean isDigit(int sign) {
            return sign >= '0' && sign <= '9';
        }

        private boolean says(String word) {
            if (kind != WORD || next - start != word.length()) {
                return false;
            }
            for (int i = 0; i < word.length(); i++) {
                if (cell(text, start + i) != word.charAt(i)) {
                    return false;
                }
            }
            return true;
        }

        private boolean isName() {
            return kind == WORD && !says("unit") && !says("hunter") && !says("guest") && !says("party")
                && !says("asks") && !says("law") && !says("prefer") && !says("guests");
        }

        /** Where there is no TOKEN at all, that is the least FAULT. */
        private boolean fail(int why) {
            fault = kind == NO_TOKEN ? FAULT_NO_TOKEN : why;
            place = start;
            return false;
        }

        // ---- LINES

        private boolean readLine() {
            if (says("unit")) {
                return draft.units < MAX_UNITS ? readUnit() : fail(FAULT_STAND);
            }
            if (says("hunter")) {
                return draft.hunters < MAX_HUNTERS ? readHunter() : fail(FAULT_STAND);
            }
            if (says("party")) {
                return draft.parties < MAX_PARTIES ? readParty() : fail(FAULT_STAND);
            }
            if (says("asks")) {
                return readAsks();
            }
            if (says("law")) {
                return hasLaw ? fail(FAULT_STAND) : readLaw();
            }
            if (says("prefer")) {
                return hasPrefer ? fail(FAULT_STAND) : readPrefer();
            }
            if (says("guests")) {
                return hasGuests ? fail(FAULT_STAND) : readGuests();
            }
            return fail(FAULT_STAND);
        }

        private boolean readUnit() {
            step();
            if (!readNewName()) {
                return false;
            }
            if (!numberUpTo(MAX_COUNT) || !endOfLine()) {
                return false;
            }
            bigPut(unitNames, draft.units, newName);
            draft.addUnit(number);
            return true;
        }

        private boolean readHunter() {
            step();
            if (!readNewName()) {
                return false;
            }
            if (!numberUpTo(MAX_COUNT)) {
                return false;
            }
            boolean isGuest = says("guest");
            if (isGuest) {
                step();
            }
            if (!endOfLine()) {
                return false;
            }
            bigPut(hunterNames, draft.hunters, newName);
            draft.addHunter(number, isGuest);
            return true;
        }

        private boolean readParty() {
            step();
            if (!readNewName()) {
                return false;
            }
            int bits = 0;
            for (int n = 0; n < MAX_SIZE && !(n >= 2 && kind == SIGN); n++) {
                if (!isName()) {
                    return fail(FAULT_STAND);
                }
                int h = find(hunterNames, draft.hunters, letters);
                if (!isFree(h) || (bits >> h & 1) == 1) {
                    return fail(FAULT_NAME);
                }
                bits |= 1 << h;
                step();
            }
            if (!endOfLine()) {
                return false;
            }
            bigPut(partyNames, draft.parties, newName);
            draft.addParty(bits);
            return true;
        }

        private boolean readAsks() {
            step();
            if (!isName()) {
                return fail(FAULT_STAND);
            }
            int bits = asker();
            if (bits == 0) {
                return fail(FAULT_NAME);
            }
            step();
            fill(asked, NONE);
            for (int n = 0; n < MAX_CHOICES && !(n >= 1 && kind == SIGN); n++) {
                if (!isName()) {
                    return fail(FAULT_STAND);
                }
                int u = find(unitNames, draft.units, letters);
                if (u == NONE || cell(asked, 0) == u || cell(asked, 1) == u) {
                    return fail(FAULT_NAME);
                }
                put(asked, n, u);
                step();
            }
            if (!endOfLine()) {
                return false;
            }
            draft.wishFor(bits, cell(asked, 0), cell(asked, 1), cell(asked, 2));
            return true;
        }

        private boolean readLaw() {
            step();
            if (says("line")) {
                draft.ticketLaw = LINE;
            } else if (says("square")) {
                draft.ticketLaw = SQUARE;
            } else if (!says("plain")) {
                return fail(FAULT_STAND);
            }
            hasLaw = true;
            step();
            return endOfLine();
        }

        private boolean readPrefer() {
            step();
            if (!numberUpTo(MAX_PERCENT)) {
                return false;
            }
            hasPrefer = true;
            draft.preferPart = number;
            return endOfLine();
        }

        private boolean readGuests() {
            step();
            if (!numberUpTo(MAX_PERCENT)) {
                return false;
            }
            hasGuests = true;
            draft.guestPart = number;
            return endOfLine();
        }

        // ---- parts of LINES; each stops at its TOKEN if that is faulty, and else steps past it

        private boolean readNewName() {
            if (!isName()) {
                return fail(FAULT_STAND);
            }
            if (isTaken(letters)) {
                return fail(FAULT_NAME);
            }
            newName = letters;
            step();
            return true;
        }

        private boolean numberUpTo(int most) {
            if (kind != NUMBER) {
                return fail(FAULT_STAND);
            }
            if (number > most) {
                return fail(FAULT_NUMBER);
            }
            step();
            return true;
        }

        private boolean endOfLine() {
            if (kind != SIGN) {
                return fail(FAULT_STAND);
            }
            step();
            return true;
        }

        // ---- NAMES

        private static int find(long[] names, int count, long name) {
            for (int i = 0; i < count; i++) {
                if (bigCell(names, i) == name) {
                    return i;
                }
            }
            return NONE;
        }

        private boolean isTaken(long name) {
            return find(unitNames, draft.units, name) != NONE
                || find(hunterNames, draft.hunters, name) != NONE
                || find(partyNames, draft.parties, name) != NONE;
        }

        private boolean isFree(int h) {
            return h != NONE && cell(draft.party, h) == NONE && cell(draft.wishCount, h) == 0;
        }

        /** The HUNTERS, as bits, for whom the NAME here may ask; 0 if it may not. */
        private int asker() {
            int h = find(hunterNames, draft.hunters, letters);
            if (isFree(h)) {
                return 1 << h;
            }
            int p = find(partyNames, draft.parties, letters);
            int bits = 0;
            for (int i = 0; p != NONE && i < draft.hunters; i++) {
                if (cell(draft.party, i) == p && cell(draft.wishCount, i) == 0) {
                    bits |= 1 << i;
                }
            }
            return bits;
        }
    }

    /** The APPLICANTS and UNITS of a list, with all that follows from it for them. */
    private static final class Pool {
        int units;
        int count;
        int allTickets;
        boolean anyPreferred;
        final int[] quota = new int[MAX_UNITS];
        final int[] preferred = new int[MAX_UNITS];
        final int[] forGuests = new int[MAX_UNITS];
        final int[] applicantOf = new int[MAX_HUNTERS];
        final int[] size = new int[MAX_HUNTERS];
        final int[] guestCount = new int[MAX_HUNTERS];
        final int[] score = new int[MAX_HUNTERS];
        final int[] tickets = new int[MAX_HUNTERS];
        final int[] bits = new int[MAX_HUNTERS];
        final int[] party = new int[MAX_HUNTERS];
        final int[] wishCount = new int[MAX_HUNTERS];
        final int[] wishes = new int[MAX_HUNTERS * MAX_CHOICES];

        void gather(Register list) {
            gatherUnits(list);
            count = 0;
            for (int h = 0; h < list.hunters; h++) {
                if (cell(list.party, h) == NONE) {
                    open(NONE);
                    join(list, h);
                }
            }
            for (int p = 0; p < list.parties; p++) {
                open(p);
                for (int h = 0; h < list.hunters; h++) {
                    if (cell(list.party, h) == p) {
                        join(list, h);
                    }
                }
            }
            allTickets = 0;
            for (int a = 0; a < count; a++) {
                close(a, list.ticketLaw);
                allTickets += cell(tickets, a);
            }
        }

        private void gatherUnits(Register list) {
            units = list.units;
            anyPreferred = false;
            for (int u = 0; u < units; u++) {
                int tags = cell(list.quota, u);
                put(quota, u, tags);
                put(preferred, u, tags * list.preferPart / 100);
                put(forGuests, u, tags * list.guestPart / 100);
                anyPreferred |= cell(preferred, u) > 0;
            }
        }

        private void open(int p) {
            put(size, count, 0);
            put(guestCount, count, 0);
            put(score, count, 0);
            put(bits, count, 0);
            put(party, count, p);
            count++;
        }

        private void join(Register list, int h) {
            int a = count - 1;
            put(applicantOf, h, a);
            add(size, a, 1);
            add(guestCount, a, cell(list.guest, h));
            add(score, a, cell(list.score, h));
            add(bits, a, 1 << h);
            put(wishCount, a, cell(list.wishCount, h));
            for (int k = 0; k < MAX_CHOICES; k++) {
                put(wishes, a * MAX_CHOICES + k, cell(list.wishes, h * MAX_CHOICES + k));
            }
        }

        private void close(int a, int law) {
            int heads = cell(size, a);
            int points = heads == 0 ? 0 : cell(score, a) / heads;
            put(score, a, points);
            put(tickets, a, law == SQUARE ? 1 + points * points : law == LINE ? 1 + points : 1);
        }

        /** The k-th CHOICE, or NONE. */
        int wish(int a, int k) {
            return cell(wishes, a * MAX_CHOICES + k);
        }

        /** Which CHOICE a UNIT is, or NONE. */
        int rankOf(int a, int u) {
            for (int k = 0; k < cell(wishCount, a); k++) {
                if (wish(a, k) == u) {
                    return k;
                }
            }
            return NONE;
        }

        boolean fits(int a, int tags, int guests) {
            return cell(size, a) <= tags && cell(guestCount, a) <= guests;
        }

        int firstApplicants(int u) {
            int applicants = 0;
            for (int a = 0; a < count; a++) {
                applicants += rankOf(a, u) == 0 ? 1 : 0;
            }
            return applicants;
        }

        int firstHunters(int u) {
            int heads = 0;
            for (int a = 0; a < count; a++) {
                heads += rankOf(a, u) == 0 ? cell(size, a) : 0;
            }
            return heads;
        }

        int askers(int u) {
            int applicants = 0;
            for (int a = 0; a < count; a++) {
                applicants += rankOf(a, u) == NONE ? 0 : 1;
            }
            return applicants;
        }
    }

    /** An ORDER and its RESULT. */
    private static final class Result {
        final int[] line = new int[MAX_HUNTERS];
        final int[] unitOf = new int[MAX_HUNTERS];
        final int[] roundOf = new int[MAX_HUNTERS];
        final int[] leftTags = new int[MAX_UNITS];
        final int[] leftGuests = new int[MAX_UNITS];
        private final int[] leftPreferred = new int[MAX_UNITS];
        private final int[] ranked = new int[MAX_HUNTERS];

        void bySeed(Pool pool, int seed) {
            lineUp(pool, seed);
            settle(pool);
        }

        void lineUp(Pool pool, int seed) {
            long x = seed;
            int tickets = pool.allTickets;
            int waiting = (1 << pool.count) - 1;
            for (int k = 0; k < pool.count && tickets > 0; k++) {
                x = (1103515245L * x + 12345L) % 2147483648L;
                int a = holderOf(pool, waiting, (int) (x / 65536L % tickets));
                put(line, k, a);
                waiting &= ~(1 << a);
                tickets -= cell(pool.tickets, a);
            }
        }

        private static int holderOf(Pool pool, int waiting, int ticket) {
            int above = 0;
            for (int a = 0; a < pool.count; a++) {
                if ((waiting >> a & 1) == 1) {
                    above += cell(pool.tickets, a);
                    if (above > ticket) {
                        return a;
                    }
                }
            }
            return 0;
        }

        /** Works the RESULT of the ORDER out that stands in line. */
        void settle(Pool pool) {
            for (int a = 0; a < pool.count; a++) {
                put(unitOf, a, NONE);
                put(roundOf, a, 0);
            }
            for (int u = 0; u < pool.units; u++) {
                put(leftTags, u, cell(pool.quota, u));
                put(leftPreferred, u, cell(pool.preferred, u));
                put(leftGuests, u, cell(pool.forGuests, u));
            }
            if (pool.anyPreferred) {
                firstRound(pool);
            }
            secondRound(pool);
        }

        /** UNITS take nothing from one another in this round, so one row by POINTS does for all of them. */
        private void firstRound(Pool pool) {
            rank(pool);
            for (int k = 0; k < pool.count; k++) {
                int a = cell(ranked, k);
                int u = pool.wish(a, 0);
                if (u != NONE && pool.fits(a, cell(leftPreferred, u), cell(leftGuests, u))) {
                    add(leftPreferred, u, -cell(pool.size, a));
                    hold(pool, a, u, 1);
                }
            }
        }

        /** Sorts the line by POINTS, those with as many staying in its ORDER. */
        private void rank(Pool pool) {
            for (int k = 0; k < pool.count; k++) {
                int a = cell(line, k);
                int points = cell(pool.score, a);
                int place = k;
                while (place > 0 && cell(pool.score, cell(ranked, place - 1)) < points) {
                    put(ranked, place, cell(ranked, place - 1));
                    place--;
                }
                put(ranked, place, a);
            }
        }

        private void secondRound(Pool pool) {
            for (int k = 0; k < pool.count; k++) {
                int a = cell(line, k);
                int wishes = cell(unitOf, a) == NONE ? cell(pool.wishCount, a) : 0;
                for (int i = 0; i < wishes; i++) {
                    int u = pool.wish(a, i);
                    if (pool.fits(a, cell(leftTags, u), cell(leftGuests, u))) {
                        hold(pool, a, u, 2);
                        break;
                    }
                }
            }
        }

        private void hold(Pool pool, int a, int u, int round) {
            put(unitOf, a, u);
            put(roundOf, a, round);
            add(leftTags, u, -cell(pool.size, a));
            add(leftGuests, u, -cell(pool.guestCount, a));
        }

        boolean hasFirst(Pool pool, int a) {
            return cell(unitOf, a) != NONE && cell(unitOf, a) == pool.wish(a, 0);
        }

        /** Which CHOICE an APPLICANT has; behind all CHOICES if it has none. */
        int rankHeld(Pool pool, int a) {
            int rank = pool.rankOf(a, cell(unitOf, a));
            return rank == NONE ? MAX_CHOICES : rank;
        }

        boolean isWaiting(Pool pool, int a, int u) {
            return cell(unitOf, a) == NONE && pool.rankOf(a, u) != NONE;
        }

        int holders(Pool pool, int u) {
            int applicants = 0;
            for (int a = 0; a < pool.count; a++) {
                applicants += cell(unitOf, a) == u ? 1 : 0;
            }
            return applicants;
        }

        /** NONE if no APPLICANT has the UNIT. */
        int fewestPoints(Pool pool, int u) {
            int fewest = NONE;
            for (int a = 0; a < pool.count; a++) {
                if (cell(unitOf, a) == u && (fewest == NONE || cell(pool.score, a) < fewest)) {
                    fewest = cell(pool.score, a);
                }
            }
            return fewest;
        }

        int tagsGiven(Pool pool) {
            int tags = 0;
            for (int a = 0; a < pool.count; a++) {
                tags += cell(unitOf, a) == NONE ? 0 : cell(pool.size, a);
            }
            return tags;
        }

        /** The POINTS BEHIND this RESULT of a HUNTER of an APPLICANT, who had so many. */
        int scoreBehind(Pool pool, int a, int had) {
            if (cell(pool.wishCount, a) == 0) {
                return had;
            }
            if (cell(unitOf, a) == NONE) {
                return Math.min(had + 1, MAX_COUNT);
            }
            return hasFirst(pool, a) ? 0 : had;
        }
    }

    /** The RESULTS of all ORDERS, with their PARTS added by what is so in them. */
    private static final class Odds {
        /** By each set of APPLICANTS that have a UNIT: PARTS, and whether a RESULT ends so. */
        final long[] sets = new long[MAX_SETS];
        final int[] seen = new int[MAX_SETS];
        final long[] atUnit = new long[MAX_ORDERED * MAX_UNITS];
        final long[] early = new long[MAX_ORDERED];
        private final Result result = new Result();

        /** Does nothing but clear with too many APPLICANTS. */
        void reckon(Pool pool) {
            bigFill(sets, 0);
            fill(seen, 0);
            bigFill(atUnit, 0);
            bigFill(early, 0);
            if (pool.count <= MAX_ORDERED) {
                walk(this, pool, 0, (1 << pool.count) - 1, pool.allTickets, ALL_PARTS);
            }
        }

        private static void walk(Odds odds, Pool pool, int depth, int waiting, int tickets, long parts) {
            if (waiting == 0) {
                odds.result.settle(pool);
                odds.record(pool, parts);
                return;
            }
            if (depth >= MAX_ORDERED || tickets <= 0) {
                return;
            }
            for (int a = 0; a < pool.count; a++) {
                if ((waiting >> a & 1) == 1) {
                    int own = cell(pool.tickets, a);
                    put(odds.result.line, depth, a);
                    walk(odds, pool, depth + 1, waiting & ~(1 << a), tickets - own, parts * own / tickets);
                }
            }
        }

        private void record(Pool pool, long parts) {
            int having = 0;
            for (int a = 0; a < pool.count; a++) {
                int u = cell(result.unitOf, a);
                if (u == NONE) {
                    continue;
                }
                having |= 1 << a;
                bigAdd(atUnit, a * MAX_UNITS + u, parts);
                if (cell(result.roundOf, a) == 1) {
                    bigAdd(early, a, parts);
                }
            }
            bigAdd(sets, having, parts);
            put(seen, having, 1);
        }

        long certainUnit(int a, int u) {
            return bigCell(atUnit, a * MAX_UNITS + u);
        }

        long anyUnit(int a) {
            return allOf(1 << a);
        }

        /** PARTS in which all of these APPLICANTS, told as bits, have a UNIT. */
        long allOf(int applicants) {
            long parts = 0;
            for (int set = 0; set < MAX_SETS; set++) {
                if ((set & applicants) == applicants) {
                    parts += bigCell(sets, set);
                }
            }
            return parts;
        }

        int always() {
            int applicants = MAX_SETS - 1;
            for (int set = 0; set < MAX_SETS; set++) {
                if (cell(seen, set) == 1) {
                    applicants &= set;
                }
            }
            return applicants;
        }

        int ever() {
            int applicants = 0;
            for (int set = 0; set < MAX_SETS; set++) {
                if (cell(seen, set) == 1) {
                    applicants |= set;
                }
            }
            return applicants;
        }

        int fewestTags(Pool pool) {
            int fewest = MAX_HUNTERS;
            for (int set = 0; set < MAX_SETS; set++) {
                if (cell(seen, set) == 1) {
                    fewest = Math.min(fewest, tagsOf(pool, set));
                }
            }
            return fewest;
        }

        int mostTags(Pool pool) {
            int most = 0;
            for (int set = 0; set < MAX_SETS; set++) {
                if (cell(seen, set) == 1) {
                    most = Math.max(most, tagsOf(pool, set));
                }
            }
            return most;
        }

        private static int tagsOf(Pool pool, int set) {
            int tags = 0;
            for (int a = 0; a < pool.count; a++) {
                tags += (set >> a & 1) == 1 ? cell(pool.size, a) : 0;
            }
            return tags;
        }
    }

    /** YEARS on paper, and what each HUNTER had in them. */
    private static final class Years {
        int tags;
        int longestDry;
        final int[] times = new int[MAX_HUNTERS];
        /** The YEAR of the first CHOICE; 0 without one. */
        final int[] firstWish = new int[MAX_HUNTERS];
        private final int[] dry = new int[MAX_HUNTERS];
        private final Register list = new Register();
        private final Pool pool = new Pool();
        private final Result result = new Result();

        void pass(Register from, int seed, int n) {
            tags = 0;
            longestDry = 0;
            fill(times, 0);
            fill(firstWish, 0);
            fill(dry, 0);
            list.take(from);
            for (int year = 1; year <= n; year++) {
                pool.gather(list);
                result.bySeed(pool, seed + year - 1);
                tags += result.tagsGiven(pool);
                for (int h = 0; h < list.hunters; h++) {
                    note(h, year);
                }
                list.live(pool, result);
            }
        }

        private void note(int h, int year) {
            int a = cell(pool.applicantOf, h);
            if (cell(result.unitOf, a) == NONE) {
                add(dry, h, 1);
                longestDry = Math.max(longestDry, cell(dry, h));
                return;
            }
            put(dry, h, 0);
            add(times, h, 1);
            if (result.hasFirst(pool, a) && cell(firstWish, h) == 0) {
                put(firstWish, h, year);
            }
        }

        /** HUNTERS, as bits, that had none in any YEAR. */
        int unserved(int hunters) {
            int bits = 0;
            for (int h = 0; h < hunters; h++) {
                bits |= cell(times, h) == 0 ? 1 << h : 0;
            }
            return bits;
        }
    }
}
