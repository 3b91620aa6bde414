/**
 * A solera cellar: casks in tiers with drops of each age, laws and orders read from a tape,
 * plans tried on paper, years taken back and images gone back to.
 *
 * <p>Every row that a call needs is made with the object and used again, for what a run of calls
 * makes is never given back; only laws and plans that are kept are made anew.
 */
public final class SoleraCellar {
    public static final int NONE = -1;

    private static final int WRONG_NUMBER = -1;
    private static final int NO_SUCH = -2;
    private static final int CANNOT_BE = -3;
    private static final int NO_ROOM = -5;
    private static final int WRONG_TEXT = -6;

    private static final int CASKS = 8;
    private static final int AGES = 20;
    private static final int TIERS = 5;
    private static final int MOST_MEASURES = 999;
    private static final int DROPS = 1000;
    private static final int MOST_BOTTLED = 999_999;
    private static final int LAWS = 6;
    private static final int PLANS = 4;
    private static final int TASTINGS = 6;
    private static final int FACTS = 3;
    private static final int NO_FACT = 999;
    private static final int IMAGES = 2;
    private static final int UNDONE = 16;
    private static final int LONGEST_PAPER = 60;
    private static final int OLDEST = 19_000;
    private static final int FEWEST = 20;
    private static final int MOST_BOTTLES = 99;
    private static final long WHOLE = 1_000_000_000_000L;

    private static final int YEAR = 0;
    private static final int CORKED = 1;
    private static final int MOOD = 2;
    private static final int PART = 3;
    private static final int TERMS = 4;
    private static final int LAST_YEAR = 999;

    // The first four are what undo() answers, too.
    private static final int POUR = 0;
    private static final int RACK = 1;
    private static final int BOTTLE = 2;
    private static final int PASS = 3;
    private static final int LOSES = 4;
    private static final int YIELDS = 5;
    private static final int BARS = 6;

    private static final int TAPE = 400;
    private static final int CLAUSES = 12;
    private static final int PARTS = 50;
    private static final int BRACKETS = 8;
    private static final int MOST_NUMBER = 1000;
    private static final int MOST_TIMES = 20;

    // What one step of a read text does.
    private static final int NUMBER = 0;
    private static final int CELLAR_WORD = 1;
    private static final int CASK_WORD = 2;
    private static final int PLUS = 3;
    private static final int MINUS = 4;
    private static final int TIMES = 5;
    private static final int BY = 6;
    private static final int REST = 7;
    private static final int LESS = 8;
    private static final int MORE = 9;
    private static final int SAME = 10;
    private static final int NOT = 11;
    private static final int AND = 12;
    private static final int OR = 13;

    // The words of both languages: those of the cellar, then those of one cask.
    private static final int YEAR_NOW = 0;
    private static final int MOOD_NOW = 1;
    private static final int DONE = 2;
    private static final int LATEST = 3;
    private static final int BOTTLED = 4;
    private static final int WHICH = 5;
    private static final int TIER = 6;
    private static final int SIZE = 7;
    private static final int FULL = 8;
    private static final int ROOM = 9;
    private static final int MEAN = 10;

    private final Tape tape = new Tape();
    private final Reader reader = new Reader(tape);
    private final State now = new State();
    private final State[] images = {new State(), new State()};
    private final boolean[] kept = new boolean[IMAGES];
    private final History history = new History();
    private final Stock paper = new Stock();
    private final Stock harvested = new Stock();
    private final Worker worker = new Worker(paper, new Text(0, 0));
    private final long[] chances = new long[FEWEST];
    private final int[] refusals = new int[1 - WRONG_TEXT];
    private int status;
    private int leaks;
    private int fault = NONE;
    private int stopped = NONE;

    public SoleraCellar() {
    }

    public int cask(int tier, int size) {
        if (!isWithin(tier, 0, TIERS - 1) || !isWithin(size, 1, MOST_MEASURES)) {
            return refuse(WRONG_NUMBER);
        }
        if (now.stock.casks >= CASKS) {
            return refuse(NO_ROOM);
        }
        history.clear();
        return accept(now.stock.add(tier, size));
    }

    public int of(int cask, int what) {
        Stock stock = now.stock;
        if (!stock.has(cask) || !isWithin(what, 0, 7 + AGES)) {
            return NONE;
        }
        worker.begin(stock, now.lawInForce());
        switch (what) {
            case 0:
                return stock.tiers[cask];
            case 1:
                return stock.sizes[cask];
            case 2:
                return stock.held[cask];
            case 3:
                return stock.mean(cask);
            case 4:
                return stock.label(cask);
            case 5:
                return worker.tells(LOSES, cask);
            case 6:
                return worker.tells(YIELDS, cask);
            case 7:
                return worker.tells(BARS, cask);
            default:
                return stock.drops[cask * AGES + what - 8];
        }
    }

    public long old(int cask, int a) {
        Stock stock = now.stock;
        if (!stock.has(cask) || !isWithin(a, 0, AGES - 1) || stock.held[cask] < 1) {
            return NONE;
        }
        return stock.asOldAs(cask, a) * WHOLE / stock.held[cask];
    }

    public int terms(int what, int value) {
        if (!isWithin(what, 0, TERMS - 1) || !isWithin(value, leastTerm(what), mostTerm(what))) {
            return refuse(WRONG_NUMBER);
        }
        int was = now.stock.terms[what];
        now.stock.terms[what] = value;
        history.clear();
        return accept(was);
    }

    public int feed(int a, int b, int c, int d, int e) {
        if (tape.length + 20 > TAPE) {
            return NONE;
        }
        tape.add(a);
        tape.add(b);
        tape.add(c);
        tape.add(d);
        tape.add(e);
        return tape.length;
    }

    public int end(int n) {
        if (!isWithin(n, 0, tape.length)) {
            return NONE;
        }
        tape.length = n;
        return n;
    }

    public int row() {
        if (tape.length < 1) {
            return refuse(WRONG_TEXT);
        }
        int came = 0;
        leaks = 0;
        for (int at = 0; at < tape.length; at += 3) {
            if (cameFromTape(at)) {
                came++;
            } else {
                leaks++;
            }
        }
        tape.length = 0;
        history.clear();
        return accept(came);
    }

    public int leaks() {
        return leaks;
    }

    public int law() {
        if (now.lawCount >= LAWS) {
            tape.length = 0;
            return refuse(NO_ROOM);
        }
        fault = reader.read(true);
        tape.length = 0;
        if (fault != NONE) {
            return refuse(WRONG_TEXT);
        }
        now.laws[now.lawCount] = reader.draft.trimmed();
        now.lawCount++;
        return accept(now.lawCount - 1);
    }

    public int plan() {
        if (now.planCount >= PLANS) {
            tape.length = 0;
            return refuse(NO_ROOM);
        }
        fault = reader.read(false);
        tape.length = 0;
        if (fault != NONE) {
            return refuse(WRONG_TEXT);
        }
        now.plans[now.planCount] = reader.draft.trimmed();
        now.planCount++;
        return accept(now.planCount - 1);
    }

    public int orders() {
        stopped = NONE;
        fault = reader.read(false);
        tape.length = 0;
        if (fault != NONE) {
            return refuse(WRONG_TEXT);
        }
        // Tried on paper first: orders that stop must leave nothing behind, what can be undone neither.
        startPaper();
        stopped = worker.runOrders(reader.draft, null);
        if (stopped != NONE) {
            return refuse(CANNOT_BE);
        }
        worker.begin(now.stock, now.lawInForce());
        worker.runOrders(reader.draft, history);
        return accept(worker.asker.done);
    }

    public int fault() {
        return fault;
    }

    public int stopped() {
        return stopped;
    }

    public int force(int law) {
        if (law != NONE && !now.hasLaw(law)) {
            return refuse(NO_SUCH);
        }
        int was = now.inForce;
        now.inForce = law;
        return accept(was);
    }

    public int pour(int cask, int n) {
        startWork();
        return finishWork(POUR, worker.pourInto(cask, n));
    }

    public int rack(int from, int to, int n) {
        startWork();
        return finishWork(RACK, worker.rackOver(from, to, n));
    }

    public int bottle(int cask, int n) {
        startWork();
        return finishWork(BOTTLE, worker.bottleFrom(cask, n));
    }

    public int pass() {
        startWork();
        return finishWork(PASS, now.stock.isLastYear() ? CANNOT_BE : worker.passYear());
    }

    public int undo() {
        int kind = history.takeBack(now.stock);
        return kind == NONE ? refuse(CANNOT_BE) : accept(kind);
    }

    public int byPlan(int plan, int n, int cask, int what) {
        if (!now.hasPlan(plan) || !now.stock.has(cask)) {
            return NONE;
        }
        if (!isWithin(n, 0, LONGEST_PAPER) || !isWithin(what, 0, 2)) {
            return NONE;
        }
        startPaper();
        worker.planYears(now.plans[plan], n);
        if (what == 0) {
            return paper.held[cask];
        }
        return what == 1 ? paper.mean(cask) : paper.label(cask);
    }

    public int oldEnough(int plan, int cask, int m) {
        if (!now.hasPlan(plan) || !now.stock.has(cask) || !isWithin(m, 0, OLDEST)) {
            return NONE;
        }
        startPaper();
        for (int n = 0; n <= LONGEST_PAPER; n++) {
            if (paper.mean(cask) >= m) {
                return n;
            }
            worker.planYears(now.plans[plan], 1);
        }
        return NONE;
    }

    public int settled(int plan, int cask) {
        if (!now.hasPlan(plan) || !now.stock.has(cask)) {
            return NONE;
        }
        startPaper();
        for (int n = 0; n < LONGEST_PAPER; n++) {
            int ahead = paper.mean(cask);
            worker.planYears(now.plans[plan], 1);
            if (ahead != NONE && ahead == paper.mean(cask)) {
                return n;
            }
        }
        return NONE;
    }

    public int starves(int plan) {
        if (!now.hasPlan(plan)) {
            return NONE;
        }
        startPaper();
        for (int n = 0; n < LONGEST_PAPER; n++) {
            worker.planYears(now.plans[plan], 1);
            if (worker.skipped) {
                return n;
            }
        }
        return NONE;
    }

    public int yields(int plan, int n) {
        if (!now.hasPlan(plan) || !isWithin(n, 0, LONGEST_PAPER)) {
            return NONE;
        }
        startPaper();
        worker.planYears(now.plans[plan], n);
        return worker.bottles;
    }

    public int best(int n, int m) {
        if (!isWithin(n, 0, LONGEST_PAPER) || !isWithin(m, 0, OLDEST)) {
            return NONE;
        }
        int best = NONE;
        int most = NONE;
        for (int plan = 0; plan < now.planCount; plan++) {
            startPaper();
            worker.planYears(now.plans[plan], n);
            if (worker.youngest >= m && worker.bottles > most) {
                best = plan;
                most = worker.bottles;
            }
        }
        return best;
    }

    public int tasted(int fact, int n) {
        if (!isWithin(fact, 0, FACTS - 1) || !isWithin(n, 0, NO_FACT)) {
            return refuse(WRONG_NUMBER);
        }
        if (now.tastings >= TASTINGS) {
            return refuse(NO_ROOM);
        }
        now.facts[now.tastings] = fact;
        now.answers[now.tastings] = n;
        now.tastings++;
        return accept(now.tastings);
    }

    public int forget() {
        int were = now.tastings;
        now.tastings = 0;
        return were;
    }

    public int canBe() {
        int bits = 0;
        for (int cask = 0; cask < now.stock.casks; cask++) {
            if (fitsAllTasted(cask)) {
                bits |= 1 << cask;
            }
        }
        return bits;
    }

    public int taste(int what) {
        int bits = canBe();
        if (bits == 0 || !isWithin(what, 0, 1)) {
            return NONE;
        }
        int fact = 0;
        int fewest = mostAlike(0, bits);
        for (int f = 1; f < FACTS; f++) {
            int alike = mostAlike(f, bits);
            if (alike < fewest) {
                fact = f;
                fewest = alike;
            }
        }
        return what == 0 ? fact : fewest;
    }

    public long few(int k, int n) {
        if (!isWithin(k, 1, FEWEST) || !isWithin(n, 0, MOST_BOTTLES)) {
            return NONE;
        }
        for (int were = 0; were < FEWEST; were++) {
            chances[were] = were == 0 ? WHOLE : 0;
        }
        int corked = now.stock.terms[CORKED];
        for (int bottle = 0; bottle < n; bottle++) {
            // From the most down, for each part still needs what the one below it was.
            for (int were = k - 1; were >= 0; were--) {
                long oneMore = were > 0 ? chances[were - 1] * corked / 10 : 0;
                chances[were] = chances[were] * (10 - corked) / 10 + oneMore;
            }
        }
        long together = 0;
        for (int were = 0; were < k; were++) {
            together += chances[were];
        }
        return together;
    }

    public int compare(int law, int cask) {
        if ((law != NONE && !now.hasLaw(law)) || !now.stock.has(cask)) {
            return NONE;
        }
        worker.begin(now.stock, now.lawOf(law));
        return now.stock.lossOf(cask, worker.tells(LOSES, cask));
    }

    public int harvests(int seed, int n) {
        if (!isWithin(seed, 0, 1_000_000) || !isWithin(n, 1, LONGEST_PAPER)) {
            return refuse(WRONG_NUMBER);
        }
        if (now.stock.casks < 1) {
            return refuse(CANNOT_BE);
        }
        harvested.copyFrom(now.stock);
        worker.begin(harvested, now.lawInForce());
        int s = seed;
        for (int time = 0; time < n && !harvested.isLastYear(); time++) {
            s = worker.harvestYear(s);
        }
        return accept(worker.bottles);
    }

    public int drawn(int cask, int what) {
        if (!harvested.has(cask) || !isWithin(what, 0, 1)) {
            return NONE;
        }
        return what == 0 ? harvested.held[cask] : harvested.mean(cask);
    }

    public int image(int k) {
        if (!isWithin(k, 0, IMAGES - 1)) {
            return refuse(WRONG_NUMBER);
        }
        images[k].copyFrom(now);
        kept[k] = true;
        return accept(0);
    }

    public int back(int k) {
        if (!isWithin(k, 0, IMAGES - 1)) {
            return refuse(WRONG_NUMBER);
        }
        if (!kept[k]) {
            return refuse(NO_SUCH);
        }
        now.copyFrom(images[k]);
        history.clear();
        return accept(0);
    }

    public int count(int what) {
        switch (what) {
            case 0:
                return now.stock.casks;
            case 1:
                return now.stock.bottled;
            case 2:
                return now.tastings;
            case 3:
                return now.lawCount;
            case 4:
                return now.planCount;
            case 5:
                return history.count;
            case 6:
                return tape.length;
            case 7:
                return refusals[-WRONG_NUMBER];
            case 8:
                return refusals[-NO_SUCH];
            case 9:
                return refusals[-CANNOT_BE];
            case 10:
                return refusals[-NO_ROOM];
            case 11:
                return refusals[-WRONG_TEXT];
            case 12:
                return now.inForce;
            default:
                return isWithin(what, 13, 12 + TERMS) ? now.stock.terms[what - 13] : NONE;
        }
    }

    public int status() {
        return status;
    }

    private static boolean isWithin(int value, int least, int most) {
        return value >= least && value <= most;
    }

    private static int leastTerm(int what) {
        return what == PART ? 1 : 0;
    }

    private static int mostTerm(int what) {
        switch (what) {
            case YEAR:
                return LAST_YEAR;
            case CORKED:
                return 10;
            case MOOD:
                return 9;
            default:
                return 100;
        }
    }

    private int accept(int answer) {
        status = 0;
        return answer;
    }

    private int refuse(int by) {
        status = by;
        if (isWithin(-by, 0, refusals.length - 1)) {
            refusals[-by]++;
        }
        return by;
    }

    private boolean cameFromTape(int at) {
        if (at + 2 >= tape.length || now.stock.casks >= CASKS) {
            return false;
        }
        int tier = tape.bytes[at];
        int size = tape.bytes[at + 1];
        int measures = tape.bytes[at + 2];
        if (tier >= TIERS || size < 1 || measures > size) {
            return false;
        }
        now.stock.addNew(now.stock.add(tier, size), measures);
        return true;
    }

    private void startPaper() {
        paper.copyFrom(now.stock);
        worker.begin(paper, now.lawInForce());
    }

    private void startWork() {
        history.note(now.stock);
        worker.begin(now.stock, now.lawInForce());
    }

    private int finishWork(int kind, int answer) {
        if (answer < 0) {
            return refuse(answer);
        }
        history.keep(kind);
        return accept(answer);
    }

    private boolean fitsAllTasted(int cask) {
        for (int t = 0; t < now.tastings; t++) {
            if (factOf(cask, now.facts[t]) != now.answers[t]) {
                return false;
            }
        }
        return true;
    }

    private int factOf(int cask, int fact) {
        if (fact == 1) {
            return now.stock.measures(cask);
        }
        if (now.stock.held[cask] < 1) {
            return NO_FACT;
        }
        return fact == 0 ? now.stock.mean(cask) / 1000 : now.stock.label(cask);
    }

    private int mostAlike(int fact, int bits) {
        int most = 0;
        for (int one = 0; one < now.stock.casks; one++) {
            int alike = 0;
            for (int other = 0; other < now.stock.casks; other++) {
                boolean both = (bits >> one & bits >> other & 1) == 1;
                if (both && factOf(one, fact) == factOf(other, fact)) {
                    alike++;
                }
            }
            most = Math.max(most, alike);
        }
        return most;
    }

    /** The bytes that were fed and not read yet. */
    private static final class Tape {
        final int[] bytes = new int[TAPE];
        int length;

        void add(int number) {
            for (int shift = 24; shift >= 0 && length < bytes.length; shift -= 8) {
                bytes[length] = number >> shift & 255;
                length++;
            }
        }
    }

    /** Casks, what is in them, and what is told of the cellar as a whole. */
    private static final class Stock {
        final int[] tiers = new int[CASKS];
        final int[] sizes = new int[CASKS];
        // How many drops are in each cask and their ages together: asked far more often than changed.
        final int[] held = new int[CASKS];
        final long[] years = new long[CASKS];
        final int[] drops = new int[CASKS * AGES];
        final int[] terms = {0, 1, 0, 85};
        int casks;
        int bottled;

        boolean has(int cask) {
            return cask >= 0 && cask < casks;
        }

        boolean isLastYear() {
            return terms[YEAR] >= LAST_YEAR;
        }

        int add(int tier, int size) {
            if (casks >= CASKS) {
                return NONE;
            }
            int cask = casks;
            casks++;
            tiers[cask] = tier;
            sizes[cask] = size;
            held[cask] = 0;
            years[cask] = 0;
            for (int age = 0; age < AGES; age++) {
                drops[cask * AGES + age] = 0;
            }
            return cask;
        }

        void addNew(int cask, int measures) {
            if (has(cask)) {
                drops[cask * AGES] += measures * DROPS;
                held[cask] += measures * DROPS;
            }
        }

        int measures(int cask) {
            return held[cask] / DROPS;
        }

        int roomFor(int cask) {
            return (sizes[cask] * DROPS - held[cask]) / DROPS;
        }

        int mean(int cask) {
            return held[cask] < 1 ? NONE : (int) (years[cask] * 1000 / held[cask]);
        }

        long asOldAs(int cask, int a) {
            long found = 0;
            for (int age = a; age < AGES; age++) {
                found += drops[cask * AGES + age];
            }
            return found;
        }

        int label(int cask) {
            if (held[cask] < 1) {
                return NONE;
            }
            long wanted = (long) held[cask] * terms[PART];
            long found = 0;
            for (int age = AGES - 1; age > 0; age--) {
                found += drops[cask * AGES + age];
                if (found * 100 >= wanted) {
                    return age;
                }
            }
            return 0;
        }

        /** Fills taken with what goes out of the cask; there must be n measures in it. */
        void takeOut(int cask, int n, int[] taken) {
            int wanted = n * DROPS;
            int all = Math.max(1, held[cask]);
            int missing = wanted;
            for (int age = 0; age < AGES; age++) {
                taken[age] = (int) ((long) drops[cask * AGES + age] * wanted / all);
                missing -= taken[age];
            }
            for (int age = AGES - 1; age >= 0; age--) {
                int at = cask * AGES + age;
                if (missing > 0 && drops[at] > taken[age]) {
                    taken[age]++;
                    missing--;
                }
                drops[at] -= taken[age];
                years[cask] -= (long) age * taken[age];
            }
            held[cask] -= wanted;
        }

        void putIn(int cask, int[] taken) {
            for (int age = 0; age < AGES; age++) {
                drops[cask * AGES + age] += taken[age];
                held[cask] += taken[age];
                years[cask] += (long) age * taken[age];
            }
        }

        int lossOf(int cask, int thousandths) {
            int lost = 0;
            for (int age = 0; age < AGES; age++) {
                lost += drops[cask * AGES + age] * thousandths / 1000;
            }
            return lost;
        }

        int growOlder(int cask, int thousandths) {
            int lost = 0;
            int first = cask * AGES;
            years[cask] = 0;
            for (int age = AGES - 1; age >= 0; age--) {
                int less = drops[first + age] * thousandths / 1000;
                int left = drops[first + age] - less;
                // The oldest stay among the oldest.
                int next = Math.min(age + 1, AGES - 1);
                drops[first + age] = 0;
                drops[first + next] += left;
                years[cask] += (long) next * left;
                lost += less;
            }
            held[cask] -= lost;
            return lost;
        }

        void copyFrom(Stock other) {
            casks = other.casks;
            bottled = other.bottled;
            System.arraycopy(other.tiers, 0, tiers, 0, CASKS);
            System.arraycopy(other.sizes, 0, sizes, 0, CASKS);
            System.arraycopy(other.held, 0, held, 0, CASKS);
            System.arraycopy(other.years, 0, years, 0, CASKS);
            System.arraycopy(other.drops, 0, drops, 0, CASKS * AGES);
            System.arraycopy(other.terms, 0, terms, 0, TERMS);
        }
    }

    /** All that an image keeps. */
    private static final class State {
        final Stock stock = new Stock();
        final Text noLaw = new Text(0, 0);
        final Text[] laws = new Text[LAWS];
        final Text[] plans = new Text[PLANS];
        final int[] facts = new int[TASTINGS];
        final int[] answers = new int[TASTINGS];
        int lawCount;
        int planCount;
        int tastings;
        int inForce = NONE;

        State() {
            for (int i = 0; i < LAWS; i++) {
                laws[i] = noLaw;
            }
            for (int i = 0; i < PLANS; i++) {
                plans[i] = noLaw;
            }
        }

        boolean hasLaw(int law) {
            return law >= 0 && law < lawCount;
        }

        boolean hasPlan(int plan) {
            return plan >= 0 && plan < planCount;
        }

        Text lawOf(int law) {
            return hasLaw(law) ? laws[law] : noLaw;
        }

        Text lawInForce() {
            return lawOf(inForce);
        }

        void copyFrom(State other) {
            stock.copyFrom(other.stock);
            System.arraycopy(other.laws, 0, laws, 0, LAWS);
            System.arraycopy(other.plans, 0, plans, 0, PLANS);
            System.arraycopy(other.facts, 0, facts, 0, TASTINGS);
            System.arraycopy(other.answers, 0, answers, 0, TASTINGS);
            lawCount = other.lawCount;
            planCount = other.planCount;
            tastings = other.tastings;
            inForce = other.inForce;
        }
    }

    /** How the stock was ahead of each of the latest works. */
    private static final class History {
        // One more than can be undone: a work is noted before it is known whether it can be.
        private static final int SLOTS = UNDONE + 1;

        final Stock[] ahead = new Stock[SLOTS];
        final int[] kinds = new int[SLOTS];
        int next;
        int count;

        History() {
            for (int i = 0; i < SLOTS; i++) {
                ahead[i] = new Stock();
            }
        }

        void clear() {
            count = 0;
        }

        void note(Stock stock) {
            ahead[next].copyFrom(stock);
        }

        void keep(int kind) {
            kinds[next] = kind;
            next = (next + 1) % SLOTS;
            count = Math.min(count + 1, UNDONE);
        }

        int takeBack(Stock stock) {
            if (count < 1) {
                return NONE;
            }
            count--;
            next = (next + SLOTS - 1) % SLOTS;
            stock.copyFrom(ahead[next]);
            return kinds[next];
        }
    }

    /**
     * A text as it was read: for each clause a head, and steps for its sums and its test, operands
     * first, so that asking them needs no recursion.
     */
    private static final class Text {
        // A head: the kind, how many times, and where the three sums and the test begin and end.
        private static final int HEAD = 7;
        private static final int FIRST_BOUND = 2;
        private static final int LAST_SECTION = 3;
        private static final int TEST = 3;
        private static final int ARGUMENTS = 1024;

        final int[] heads;
        final int[] steps;
        int clauses;
        int size;

        Text(int clauses, int steps) {
            this.heads = new int[Math.max(0, clauses) * HEAD];
            this.steps = new int[Math.max(0, steps)];
        }

        Text trimmed() {
            Text copy = new Text(clauses, size);
            System.arraycopy(heads, 0, copy.heads, 0, copy.heads.length);
            System.arraycopy(steps, 0, copy.steps, 0, copy.steps.length);
            copy.clauses = clauses;
            copy.size = size;
            return copy;
        }

        void clear() {
            clauses = 0;
            size = 0;
        }

        void open(int kind) {
            int head = clauses * HEAD;
            if (head + HEAD > heads.length) {
                return;
            }
            clauses++;
            heads[head] = kind;
            heads[head + 1] = 1;
            endSection(NONE);
        }

        void repeat(int times) {
            int head = clauses * HEAD - HEAD;
            if (head >= 0) {
                heads[head + 1] = times;
            }
        }

        /** All sections behind this one are empty until they are written. */
        void endSection(int section) {
            int head = clauses * HEAD - HEAD;
            for (int s = Math.max(NONE, section); s <= LAST_SECTION && head >= 0; s++) {
                heads[head + FIRST_BOUND + s + 1] = size;
            }
        }

        void write(int step, int argument) {
            if (size < steps.length) {
                steps[size] = step * ARGUMENTS + argument;
                size++;
            }
        }

        /** The step at this place goes on behind all that is written by now. */
        void aimHere(int at) {
            if (at >= 0 && at < size) {
                steps[at] = steps[at] / ARGUMENTS * ARGUMENTS + size;
            }
        }

        int kindOf(int clause) {
            return heads[clause * HEAD];
        }

        int timesOf(int clause) {
            return heads[clause * HEAD + 1];
        }

        int startOf(int clause, int section) {
            return heads[clause * HEAD + FIRST_BOUND + section];
        }
    }

    /** Reads the tape as laws or as orders, clause by clause, into its draft. */
    private static final class Reader {
        private static final int END = 0;
        private static final int LETTERS = 1;
        private static final int DIGITS = 2;
        private static final int SIGN = 3;
        private static final int BLANK = 32;

        final Tape tape;
        // No token makes more than one step.
        final Text draft = new Text(CLAUSES, TAPE);
        boolean laws;
        int start;
        int end;
        int kind;
        int value;
        int parts;
        int depth;
        int fault;

        Reader(Tape tape) {
            this.tape = tape;
        }

        /** Where the fault is; NONE without. */
        int read(boolean readLaws) {
            laws = readLaws;
            draft.clear();
            end = 0;
            parts = 0;
            depth = 0;
            fault = NONE;
            next();
            for (int c = 0; c < CLAUSES; c++) {
                if (!clause()) {
                    return fault;
                }
                if (kind == END) {
                    return NONE;
                }
                if (!is(";")) {
                    return start;
                }
                next();
            }
            return start;
        }

        private boolean clause() {
            int verb = laws ? lawVerb() : orderVerb();
            if (verb == NONE) {
                return wrong();
            }
            draft.open(verb);
            next();
            for (int s = 0; s < sumsBehind(verb); s++) {
                if (s > 0) {
                    if (!is(s == 1 && verb != POUR ? "from" : "in")) {
                        return wrong();
                    }
                    next();
                }
                if (!sum()) {
                    return false;
                }
                draft.endSection(s);
            }
            if (!repeated()) {
                return false;
            }
            if (!is("if")) {
                return true;
            }
            next();
            boolean fine = test();
            draft.endSection(Text.TEST);
            return fine;
        }

        private int lawVerb() {
            if (is("loses")) {
                return LOSES;
            }
            if (is("yields")) {
                return YIELDS;
            }
            return is("bars") ? BARS : NONE;
        }

        private int orderVerb() {
            if (is("pour")) {
                return POUR;
            }
            if (is("rack")) {
                return RACK;
            }
            if (is("bottle")) {
                return BOTTLE;
            }
            return is("pass") ? PASS : NONE;
        }

        private static int sumsBehind(int verb) {
            switch (verb) {
                case RACK:
                    return 3;
                case POUR:
                case BOTTLE:
                    return 2;
                case LOSES:
                case YIELDS:
                    return 1;
                default:
                    return 0;
            }
        }

        private boolean repeated() {
            if (laws || !is("times")) {
                return true;
            }
            next();
            if (kind != DIGITS || value < 1 || value > MOST_TIMES) {
                return wrong();
            }
            draft.repeat(value);
            next();
            return true;
        }

        private boolean test() {
            boolean fine = both();
            for (int i = 0; i < TAPE && fine && is("or"); i++) {
                int at = draft.size;
                draft.write(OR, 0);
                next();
                fine = both();
                draft.aimHere(at);
            }
            return fine;
        }

        private boolean both() {
            boolean fine = plain();
            for (int i = 0; i < TAPE && fine && is("and"); i++) {
                int at = draft.size;
                draft.write(AND, 0);
                next();
                fine = plain();
                draft.aimHere(at);
            }
            return fine;
        }

        private boolean plain() {
            boolean turned = false;
            for (int i = 0; i < TAPE && is("not"); i++) {
                turned = !turned;
                next();
            }
            boolean fine = is("(") ? enters() && test() && leaves(")") : compared();
            if (fine && turned) {
                draft.write(NOT, 0);
            }
            return fine;
        }

        private boolean compared() {
            if (!sum()) {
                return false;
            }
            int step = is("<") ? LESS : is(">") ? MORE : is("=") ? SAME : NONE;
            if (step == NONE) {
                return wrong();
            }
            next();
            boolean fine = sum();
            draft.write(step, 0);
            return fine;
        }

        private boolean sum() {
            boolean fine = term();
            for (int i = 0; i < TAPE && fine && (is("+") || is("-")); i++) {
                int step = is("+") ? PLUS : MINUS;
                next();
                fine = term();
                draft.write(step, 0);
            }
            return fine;
        }

        private boolean term() {
            boolean fine = part();
            for (int i = 0; i < TAPE && fine && (is("*") || is("/") || is("%")); i++) {
                int step = is("*") ? TIMES : is("/") ? BY : REST;
                next();
                fine = part();
                draft.write(step, 0);
            }
            return fine;
        }

        private boolean part() {
            if (is("[")) {
                return enters() && sum() && leaves("]");
            }
            int word = laws ? lawWord() : orderWord();
            boolean isNumber = kind == DIGITS && value <= MOST_NUMBER;
            if (parts >= PARTS || (!isNumber && word == NONE)) {
                return wrong();
            }
            parts++;
            int number = value;
            next();
            if (isNumber) {
                draft.write(NUMBER, number);
                return true;
            }
            return wordWritten(word);
        }

        /** In orders a word of casks tells which cask; in laws it is the one that is asked. */
        private boolean wordWritten(int word) {
            if (word < WHICH) {
                draft.write(CELLAR_WORD, word);
                return true;
            }
            int cask = CASKS;
            if (!laws) {
                if (kind != DIGITS || value >= CASKS) {
                    return wrong();
                }
                cask = value;
                next();
            }
            draft.write(CASK_WORD, word * (CASKS + 1) + cask);
            return true;
        }

        private int lawWord() {
            if (is("cask")) {
                return WHICH;
            }
            if (is("tier")) {
                return TIER;
            }
            if (is("size")) {
                return SIZE;
            }
            if (is("full")) {
                return FULL;
            }
            if (is("mean")) {
                return MEAN;
            }
            if (is("year")) {
                return YEAR_NOW;
            }
            return is("mood") ? MOOD_NOW : NONE;
        }

        private int orderWord() {
            if (is("year")) {
                return YEAR_NOW;
            }
            if (is("done")) {
                return DONE;
            }
            if (is("latest")) {
                return LATEST;
            }
            if (is("bottled")) {
                return BOTTLED;
            }
            if (is("full")) {
                return FULL;
            }
            if (is("room")) {
                return ROOM;
            }
            return is("mean") ? MEAN : NONE;
        }

        private boolean enters() {
            if (depth >= BRACKETS) {
                return wrong();
            }
            depth++;
            next();
            return true;
        }

        private boolean leaves(String bracket) {
            if (!is(bracket)) {
                return wrong();
            }
            depth--;
            next();
            return true;
        }

        private boolean wrong() {
            fault = start;
            return false;
        }

        private boolean is(String token) {
            if (end - start != token.length()) {
                return false;
            }
            for (int i = 0; i < token.length(); i++) {
                if (tape.bytes[start + i] != token.charAt(i)) {
                    return false;
                }
            }
            return true;
        }

        private void next() {
            start = end;
            while (start < tape.length && tape.bytes[start] == BLANK) {
                start++;
            }
            end = start;
            kind = END;
            value = 0;
            while (end < tape.length) {
                int sign = tape.bytes[end];
                boolean isLetter = sign >= 'a' && sign <= 'z';
                int signKind = isLetter ? LETTERS : sign >= '0' && sign <= '9' ? DIGITS : SIGN;
                if (end > start && (signKind != kind || kind == SIGN)) {
                    return;
                }
                kind = signKind;
                if (kind == DIGITS) {
                    // Held just beyond the most that any number may be, for rows of digits can be long.
                    value = Math.min(value * 10 + sign - '0', MOST_NUMBER + 1);
                }
                end++;
            }
        }
    }

    /** Answers the sums and tests of a read text. */
    private static final class Asker {
        private static final int FARTHEST = 1_000_000_000;
        // No sum can tell this.
        private static final int BROKEN = -2_000_000_000;

        final int[] pile = new int[PARTS + 1];
        int height;
        Stock stock;
        int cask;
        int done;
        int latest = NONE;

        Asker(Stock stock) {
            this.stock = stock;
        }

        void startText() {
            done = 0;
            latest = NONE;
        }

        /** What a section tells, 1 or 0 for a test; BROKEN; 1 where the clause has none. */
        int ask(Text text, int clause, int section) {
            int from = text.startOf(clause, section);
            int to = Math.min(text.startOf(clause, section + 1), text.size);
            if (from >= to) {
                return 1;
            }
            height = 0;
            for (int at = from; at < to; at++) {
                int step = text.steps[at] / Text.ARGUMENTS;
                int argument = text.steps[at] % Text.ARGUMENTS;
                if (step == NUMBER) {
                    put(argument);
                } else if (step == CELLAR_WORD) {
                    put(valueOfCellar(argument));
                } else if (step == CASK_WORD) {
                    put(valueOfCask(argument / (CASKS + 1), argument % (CASKS + 1)));
                } else if (step == AND || step == OR) {
                    int first = lift();
                    if ((first == 1) == (step == OR)) {
                        put(first);
                        at = Math.max(at, argument - 1);
                    }
                } else if (step == NOT) {
                    put(1 - lift());
                } else if (!joins(step)) {
                    return BROKEN;
                }
            }
            return lift();
        }

        private boolean joins(int step) {
            long second = lift();
            long first = lift();
            long told = 0;
            if ((step == BY || step == REST) && second == 0) {
                return false;
            }
            switch (step) {
                case PLUS:
                    told = first + second;
                    break;
                case MINUS:
                    told = first - second;
                    break;
                case TIMES:
                    told = first * second;
                    break;
                case BY:
                    told = first / second;
                    break;
                case REST:
                    told = first % second;
                    break;
                case LESS:
                    told = first < second ? 1 : 0;
                    break;
                case MORE:
                    told = first > second ? 1 : 0;
                    break;
                default:
                    told = first == second ? 1 : 0;
                    break;
            }
            put((int) told);
            return told >= -FARTHEST && told <= FARTHEST;
        }

        private int valueOfCellar(int word) {
            switch (word) {
                case YEAR_NOW:
                    return stock.terms[YEAR];
                case MOOD_NOW:
                    return stock.terms[MOOD];
                case DONE:
                    return done;
                case LATEST:
                    return latest;
                default:
                    return stock.bottled;
            }
        }

        private int valueOfCask(int word, int named) {
            int which = named == CASKS ? cask : named;
            if (!stock.has(which)) {
                return NONE;
            }
            switch (word) {
                case WHICH:
                    return which;
                case TIER:
                    return stock.tiers[which];
                case SIZE:
                    return stock.sizes[which];
                case FULL:
                    return stock.measures(which);
                case ROOM:
                    return stock.roomFor(which);
                default:
                    return stock.held[which] < 1 ? NONE : stock.mean(which) / 1000;
            }
        }

        private void put(int value) {
            if (height < pile.length) {
                pile[height] = value;
                height++;
            }
        }

        private int lift() {
            if (height < 1) {
                return 0;
            }
            height--;
            return pile[height];
        }
    }

    /** Does the works of the cellar on a stock, the real one or one on paper, under a law. */
    private static final class Worker {
        private static final int NOT_ASKED_FOR = -9;

        final Asker asker;
        final int[] taken = new int[AGES];
        Stock stock;
        Text law;
        int bottles;
        int youngest;
        boolean skipped;

        Worker(Stock stock, Text law) {
            this.asker = new Asker(stock);
            this.stock = stock;
            this.law = law;
        }

        void begin(Stock nextStock, Text nextLaw) {
            stock = nextStock;
            law = nextLaw;
            asker.stock = nextStock;
            asker.startText();
            bottles = 0;
            // As old as can be, so that none bottled is never too young.
            youngest = OLDEST;
            skipped = false;
        }

        /** What the law tells of a cask by its clauses of this kind: the last one that holds. */
        int tells(int kind, int cask) {
            asker.cask = cask;
            for (int c = law.clauses - 1; c >= 0; c--) {
                if (law.kindOf(c) == kind && asker.ask(law, c, Text.TEST) == 1) {
                    int told = asker.ask(law, c, 0);
                    if (told != Asker.BROKEN) {
                        int most = kind == LOSES ? 99 : kind == YIELDS ? MOST_MEASURES : 1;
                        return Math.max(0, Math.min(told, most));
                    }
                }
            }
            return kind == YIELDS ? MOST_MEASURES : 0;
        }

        int pourInto(int cask, int n) {
            if (n < 1 || n > MOST_MEASURES) {
                return WRONG_NUMBER;
            }
            if (!stock.has(cask)) {
                return NO_SUCH;
            }
            if (stock.roomFor(cask) < n) {
                return CANNOT_BE;
            }
            stock.addNew(cask, n);
            return stock.measures(cask);
        }

        int rackOver(int from, int to, int n) {
            if (n < 1 || n > MOST_MEASURES) {
                return WRONG_NUMBER;
            }
            if (!stock.has(from) || !stock.has(to)) {
                return NO_SUCH;
            }
            boolean below = stock.tiers[to] == stock.tiers[from] - 1;
            if (!below || stock.measures(from) < n || stock.roomFor(to) < n) {
                return CANNOT_BE;
            }
            if (tells(BARS, from) == 1 || tells(BARS, to) == 1 || tells(YIELDS, from) < n) {
                return CANNOT_BE;
            }
            stock.takeOut(from, n, taken);
            stock.putIn(to, taken);
            return stock.mean(to);
        }

        int bottleFrom(int cask, int n) {
            if (n < 1 || n > MOST_MEASURES) {
                return WRONG_NUMBER;
            }
            if (!stock.has(cask)) {
                return NO_SUCH;
            }
            if (stock.tiers[cask] != 0 || stock.measures(cask) < n) {
                return CANNOT_BE;
            }
            if (tells(BARS, cask) == 1 || tells(YIELDS, cask) < n) {
                return CANNOT_BE;
            }
            long years = stock.years[cask];
            stock.takeOut(cask, n, taken);
            stock.bottled = Math.min(stock.bottled + n, MOST_BOTTLED);
            bottles += n;
            int mean = (int) ((years - stock.years[cask]) * 1000 / (n * DROPS));
            youngest = Math.min(youngest, mean);
            return mean;
        }

        /** Whether it may pass is asked ahead of it, for by a plan years go on behind the last. */
        int passYear() {
            int lost = 0;
            for (int cask = 0; cask < stock.casks; cask++) {
                if (stock.held[cask] > 0) {
                    lost += stock.growOlder(cask, tells(LOSES, cask));
                }
            }
            stock.terms[YEAR]++;
            return lost;
        }

        private int step(Text text, int clause) {
            if (asker.ask(text, clause, Text.TEST) != 1) {
                return NOT_ASKED_FOR;
            }
            // A sum that is BROKEN is no number of measures or casks, so the work itself refuses it.
            int n = asker.ask(text, clause, 0);
            int cask = asker.ask(text, clause, 1);
            int answer;
            switch (text.kindOf(clause)) {
                case POUR:
                    answer = pourInto(cask, n);
                    break;
                case RACK:
                    answer = rackOver(cask, asker.ask(text, clause, 2), n);
                    break;
                case BOTTLE:
                    answer = bottleFrom(cask, n);
                    asker.latest = answer < 0 ? asker.latest : answer;
                    break;
                default:
                    answer = stock.isLastYear() ? CANNOT_BE : passYear();
                    break;
            }
            asker.done += answer < 0 ? 0 : 1;
            return answer;
        }

        /** The clause that could not be, with which it ends; NONE. Without a history nothing is noted. */
        int runOrders(Text text, History history) {
            asker.startText();
            for (int c = 0; c < text.clauses; c++) {
                // One time that is not run changes nothing, so the times behind it are not run either.
                int answer = 0;
                for (int t = 0; t < text.timesOf(c) && answer >= 0; t++) {
                    if (history != null) {
                        history.note(stock);
                    }
                    answer = step(text, c);
                    if (history != null && answer >= 0) {
                        history.keep(text.kindOf(c));
                    }
                }
                if (answer < 0 && answer != NOT_ASKED_FOR) {
                    return c;
                }
            }
            return NONE;
        }

        void planYears(Text plan, int years) {
            for (int year = 0; year < years; year++) {
                asker.startText();
                for (int c = 0; c < plan.clauses; c++) {
                    int times = plan.kindOf(c) == PASS ? 0 : plan.timesOf(c);
                    int answer = 0;
                    for (int t = 0; t < times && answer >= 0; t++) {
                        answer = step(plan, c);
                    }
                    skipped = skipped || (answer < 0 && answer != NOT_ASKED_FOR);
                }
                passYear();
            }
        }

        /** One harvest with what the seed has become; what it becomes by its draws. */
        int harvestYear(int seed) {
            if (stock.casks < 1) {
                return seed;
            }
            int s = drawAfter(seed);
            int first = s % stock.casks;
            s = drawAfter(s);
            int second = s % stock.casks;
            s = drawAfter(s);
            int n = s % 9 + 1;
            s = drawAfter(s);
            switch (s % 4) {
                case POUR:
                    pourInto(first, n);
                    break;
                case RACK:
                    rackOver(first, second, n);
                    break;
                case BOTTLE:
                    bottleFrom(first, n);
                    break;
                default:
                    break;
            }
            passYear();
            return s;
        }

        private static int drawAfter(int s) {
            return (s * 1103 + 12345) % 1_000_003;
        }
    }
}
