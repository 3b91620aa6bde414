import java.util.ArrayDeque;
import java.util.ArrayList;
import java.util.Arrays;
import java.util.Deque;
import java.util.HashMap;
import java.util.List;
import java.util.Map;
import java.util.function.Function;

/**
 * The document once more, written down another way: trees in place of steps, whole copies of the
 * world in place of noted stocks, no shortcut taken. FuzzTest compares the program with it.
 */
final class Oracle {
    static final class Broken extends RuntimeException {
        Broken() {
            super("broken", null, false, false);
        }
    }

    static final class Fault extends RuntimeException {
        final int place;

        Fault(int place) {
            super("fault", null, false, false);
            this.place = place;
        }
    }

    static final class Refused extends RuntimeException {
        final int by;

        Refused(int by) {
            super("refused", null, false, false);
            this.by = by;
        }
    }

    static final class Cask {
        int tier;
        int size;
        long[] drops = new long[20];

        Cask(int tier, int size) {
            this.tier = tier;
            this.size = size;
        }

        Cask copy() {
            Cask c = new Cask(tier, size);
            c.drops = drops.clone();
            return c;
        }

        long all() {
            return Arrays.stream(drops).sum();
        }

        long mean() {
            return all() == 0 ? -1 : meanOf(drops);
        }

        long wholeMean() {
            return all() == 0 ? -1 : mean() / 1000;
        }

        long from(int a) {
            return Arrays.stream(drops, a, 20).sum();
        }

        long label(int part) {
            if (all() == 0) {
                return -1;
            }
            int best = -1;
            for (int a = 0; a < 20; a++) {
                if (from(a) * 100 >= all() * part) {
                    best = a;
                }
            }
            return best;
        }

        long[] take(long n) {
            long all = all();
            long[] out = new long[20];
            long got = 0;
            for (int a = 0; a < 20; a++) {
                out[a] = drops[a] * n * 1000 / all;
                got += out[a];
            }
            for (int a = 19; got < n * 1000; a--) {
                if (drops[a] - out[a] > 0) {
                    out[a]++;
                    got++;
                }
            }
            for (int a = 0; a < 20; a++) {
                drops[a] -= out[a];
            }
            return out;
        }
    }

    static long meanOf(long[] drops) {
        long years = 0;
        long all = 0;
        for (int a = 0; a < 20; a++) {
            years += a * drops[a];
            all += drops[a];
        }
        return years * 1000 / all;
    }

    /** What a text's words and sums are asked of. */
    interface Sum {
        long ask(Map<String, Function<Integer, Long>> words);
    }

    interface Test {
        boolean ask(Map<String, Function<Integer, Long>> words);
    }

    static final class Clause {
        String verb;
        List<Sum> sums = new ArrayList<>();
        int times = 1;
        Test test;
    }

    static final class World {
        List<Cask> casks = new ArrayList<>();
        long bottled;
        int[] terms = {0, 1, 0, 85};
        List<int[]> tasted = new ArrayList<>();
        List<List<Clause>> laws = new ArrayList<>();
        List<List<Clause>> plans = new ArrayList<>();
        int force = -1;

        World copy() {
            World w = new World();
            for (Cask c : casks) {
                w.casks.add(c.copy());
            }
            w.bottled = bottled;
            w.terms = terms.clone();
            w.tasted.addAll(tasted);
            w.laws.addAll(laws);
            w.plans.addAll(plans);
            w.force = force;
            return w;
        }

        boolean has(long cask) {
            return cask >= 0 && cask < casks.size();
        }

        List<Clause> inForce() {
            return force < 0 ? List.of() : laws.get(force);
        }

        Map<String, Function<Integer, Long>> lawWords(int cask) {
            Cask k = casks.get(cask);
            Map<String, Function<Integer, Long>> words = new HashMap<>();
            words.put("cask", c -> (long) cask);
            words.put("tier", c -> (long) k.tier);
            words.put("size", c -> (long) k.size);
            words.put("full", c -> k.all() / 1000);
            words.put("mean", c -> k.wholeMean());
            words.put("year", c -> (long) terms[0]);
            words.put("mood", c -> (long) terms[2]);
            return words;
        }

        /** The sums of all clauses of this verb that hold, in their order (0 for "bars"). */
        List<Long> holding(List<Clause> law, String verb, int cask) {
            List<Long> told = new ArrayList<>();
            for (Clause c : law) {
                if (!c.verb.equals(verb)) {
                    continue;
                }
                try {
                    if (c.test == null || c.test.ask(lawWords(cask))) {
                        told.add(c.sums.isEmpty() ? 0L : c.sums.get(0).ask(lawWords(cask)));
                    }
                } catch (Broken b) {
                    // does not hold
                }
            }
            return told;
        }

        long loses(List<Clause> law, int cask) {
            List<Long> told = holding(law, "loses", cask);
            return told.isEmpty() ? 0 : Math.max(0, Math.min(99, told.get(told.size() - 1)));
        }

        long yields(int cask) {
            List<Long> told = holding(inForce(), "yields", cask);
            return told.isEmpty() ? 999 : Math.max(0, Math.min(999, told.get(told.size() - 1)));
        }

        boolean barred(int cask) {
            return !holding(inForce(), "bars", cask).isEmpty();
        }

        static void number(long n) {
            if (n < 1 || n > 999) {
                throw new Refused(-1);
            }
        }

        Cask known(long cask) {
            if (!has(cask)) {
                throw new Refused(-2);
            }
            return casks.get((int) cask);
        }

        static void must(boolean can) {
            if (!can) {
                throw new Refused(-3);
            }
        }

        long pour(long cask, long n) {
            number(n);
            Cask k = known(cask);
            must(k.all() + n * 1000 <= k.size * 1000L);
            k.drops[0] += n * 1000;
            return k.all() / 1000;
        }

        long rack(long from, long to, long n) {
            number(n);
            Cask f = known(from);
            Cask t = known(to);
            must(t.tier == f.tier - 1);
            must(!barred((int) from) && !barred((int) to));
            must(n <= yields((int) from));
            must(f.all() >= n * 1000);
            must(t.all() + n * 1000 <= t.size * 1000L);
            long[] taken = f.take(n);
            for (int a = 0; a < 20; a++) {
                t.drops[a] += taken[a];
            }
            return t.mean();
        }

        long bottle(long cask, long n) {
            number(n);
            Cask k = known(cask);
            must(k.tier == 0 && !barred((int) cask) && n <= yields((int) cask) && k.all() >= n * 1000);
            bottled = Math.min(999_999, bottled + n);
            return meanOf(k.take(n));
        }

        long pass() {
            must(terms[0] < 999);
            return year();
        }

        long lost(List<Clause> law, int cask) {
            long loses = loses(law, cask);
            return Arrays.stream(casks.get(cask).drops).map(d -> d * loses / 1000).sum();
        }

        long year() {
            long lost = 0;
            List<Long> loses = new ArrayList<>();
            for (int c = 0; c < casks.size(); c++) {
                loses.add(loses(inForce(), c));
                lost += lost(inForce(), c);
            }
            for (int c = 0; c < casks.size(); c++) {
                long[] older = new long[20];
                for (int a = 0; a < 20; a++) {
                    long d = casks.get(c).drops[a];
                    older[Math.min(19, a + 1)] += d - d * loses.get(c) / 1000;
                }
                casks.get(c).drops = older;
            }
            terms[0]++;
            return lost;
        }
    }

    /** One run of orders, or of one year of a plan. */
    final class Run {
        final World w;
        long done;
        long latest = -1;
        long bottles;
        boolean skipped;
        List<Long> means = new ArrayList<>();
        List<Integer> kinds = new ArrayList<>();
        List<World> ahead = new ArrayList<>();

        Run(World w) {
            this.w = w;
        }

        Map<String, Function<Integer, Long>> words() {
            Map<String, Function<Integer, Long>> words = new HashMap<>();
            words.put("year", c -> (long) w.terms[0]);
            words.put("done", c -> done);
            words.put("latest", c -> latest);
            words.put("bottled", c -> w.bottled);
            words.put("full", c -> w.has(c) ? w.casks.get(c).all() / 1000 : -1);
            words.put("room", c -> w.has(c) ? (w.casks.get(c).size * 1000L - w.casks.get(c).all()) / 1000 : -1);
            words.put("mean", c -> w.has(c) ? w.casks.get(c).wholeMean() : -1);
            return words;
        }

        boolean asked(Clause c) {
            try {
                return c.test == null || c.test.ask(words());
            } catch (Broken b) {
                return false;
            }
        }

        void once(Clause c) {
            if (!asked(c)) {
                return;
            }
            List<Long> s = new ArrayList<>();
            try {
                for (Sum sum : c.sums) {
                    s.add(sum.ask(words()));
                }
            } catch (Broken b) {
                throw new Refused(-3);
            }
            World was = w.copy();
            if (c.verb.equals("pour")) {
                w.pour(s.get(1), s.get(0));
                kinds.add(0);
            } else if (c.verb.equals("rack")) {
                w.rack(s.get(1), s.get(2), s.get(0));
                kinds.add(1);
            } else if (c.verb.equals("bottle")) {
                latest = w.bottle(s.get(1), s.get(0));
                means.add(latest);
                bottles += s.get(0);
                kinds.add(2);
            } else {
                w.pass();
                kinds.add(3);
            }
            ahead.add(was);
            done++;
        }

        /** The clause that could not be; -1. */
        int orders(List<Clause> text) {
            for (int c = 0; c < text.size(); c++) {
                for (int t = 0; t < text.get(c).times; t++) {
                    try {
                        once(text.get(c));
                    } catch (Refused r) {
                        return c;
                    }
                }
            }
            return -1;
        }

        void plan(List<Clause> text) {
            done = 0;
            latest = -1;
            for (Clause c : text) {
                if (c.verb.equals("pass")) {
                    continue;
                }
                for (int t = 0; t < c.times; t++) {
                    try {
                        once(c);
                    } catch (Refused r) {
                        skipped = true;
                    }
                }
            }
            ahead.clear();
            w.year();
        }
    }

    /** Reads a text: tokens first, then by the grammar's own words. */
    static final class Parser {
        final List<String> tokens = new ArrayList<>();
        final List<Integer> places = new ArrayList<>();
        final boolean law;
        int at;
        int parts;
        int open;

        Parser(byte[] text, int length, boolean law) {
            this.law = law;
            int i = 0;
            while (i < length) {
                int j = i + 1;
                char c = (char) (text[i] & 255);
                if (c == ' ') {
                    i++;
                    continue;
                }
                while (j < length && kind(c) > 0 && kind((char) (text[j] & 255)) == kind(c)) {
                    j++;
                }
                StringBuilder b = new StringBuilder();
                for (int k = i; k < j; k++) {
                    b.append((char) (text[k] & 255));
                }
                tokens.add(b.toString());
                places.add(i);
                i = j;
            }
            tokens.add("");
            places.add(length);
        }

        static int kind(char c) {
            return c >= 'a' && c <= 'z' ? 1 : c >= '0' && c <= '9' ? 2 : 0;
        }

        String peek() {
            return tokens.get(at);
        }

        Fault fault() {
            return new Fault(places.get(at));
        }

        boolean accept(String token) {
            if (peek().equals(token)) {
                at++;
                return true;
            }
            return false;
        }

        void expect(String token) {
            if (!accept(token)) {
                throw fault();
            }
        }

        List<Clause> text() {
            List<Clause> clauses = new ArrayList<>();
            do {
                if (clauses.size() == 12) {
                    throw fault();
                }
                clauses.add(clause());
            } while (accept(";"));
            if (!peek().isEmpty()) {
                throw fault();
            }
            return clauses;
        }

        Clause clause() {
            Clause c = new Clause();
            c.verb = peek();
            List<String> links = switch (law + c.verb) {
                case "trueloses", "trueyields" -> List.of("");
                case "truebars", "falsepass" -> List.of();
                case "falsepour" -> List.of("", "in");
                case "falserack" -> List.of("", "from", "in");
                case "falsebottle" -> List.of("", "from");
                default -> throw fault();
            };
            at++;
            for (String link : links) {
                if (!link.isEmpty()) {
                    expect(link);
                }
                c.sums.add(sum());
            }
            if (!law && accept("times")) {
                c.times = number(1, 20);
            }
            if (accept("if")) {
                c.test = test();
            }
            return c;
        }

        int number(int least, int most) {
            String t = peek();
            if (t.isEmpty() || kind(t.charAt(0)) != 2) {
                throw fault();
            }
            java.math.BigInteger n = new java.math.BigInteger(t);
            if (n.compareTo(java.math.BigInteger.valueOf(least)) < 0 || n.compareTo(java.math.BigInteger.valueOf(most)) > 0) {
                throw fault();
            }
            at++;
            return n.intValue();
        }

        Test test() {
            Test left = both();
            while (accept("or")) {
                Test l = left;
                Test r = both();
                left = w -> l.ask(w) || r.ask(w);
            }
            return left;
        }

        Test both() {
            Test left = plain();
            while (accept("and")) {
                Test l = left;
                Test r = plain();
                left = w -> l.ask(w) && r.ask(w);
            }
            return left;
        }

        void enter() {
            if (open == 8) {
                throw fault();
            }
            open++;
            at++;
        }

        void leave(String token) {
            expect(token);
            open--;
        }

        Test plain() {
            if (accept("not")) {
                Test p = plain();
                return w -> !p.ask(w);
            }
            if (peek().equals("(")) {
                enter();
                Test t = test();
                leave(")");
                return t;
            }
            Sum l = sum();
            String sign = peek();
            if (!sign.equals("<") && !sign.equals(">") && !sign.equals("=")) {
                throw fault();
            }
            at++;
            Sum r = sum();
            return w -> {
                long a = l.ask(w);
                long b = r.ask(w);
                return sign.equals("<") ? a < b : sign.equals(">") ? a > b : a == b;
            };
        }

        static long within(long value) {
            if (Math.abs(value) > 1_000_000_000L) {
                throw new Broken();
            }
            return value;
        }

        Sum sum() {
            Sum left = term();
            while (peek().equals("+") || peek().equals("-")) {
                int sign = tokens.get(at++).equals("+") ? 1 : -1;
                Sum l = left;
                Sum r = term();
                left = w -> within(l.ask(w) + sign * r.ask(w));
            }
            return left;
        }

        Sum term() {
            Sum left = part();
            while (peek().equals("*") || peek().equals("/") || peek().equals("%")) {
                String sign = tokens.get(at++);
                Sum l = left;
                Sum r = part();
                left = w -> {
                    long a = l.ask(w);
                    long b = r.ask(w);
                    if (sign.equals("*")) {
                        return within(a * b);
                    }
                    if (b == 0) {
                        throw new Broken();
                    }
                    return sign.equals("/") ? a / b : a % b;
                };
            }
            return left;
        }

        Sum part() {
            if (peek().equals("[")) {
                enter();
                Sum s = sum();
                leave("]");
                return s;
            }
            String t = peek();
            if (parts == 50 || t.isEmpty()) {
                throw fault();
            }
            parts++;
            if (kind(t.charAt(0)) == 2) {
                long n = number(0, 1000);
                return w -> n;
            }
            List<String> plain = law ? List.of("cask", "tier", "size", "full", "mean", "year", "mood")
                    : List.of("year", "done", "latest", "bottled");
            if (plain.contains(t)) {
                at++;
                return w -> w.get(t).apply(0);
            }
            if (!law && List.of("full", "room", "mean").contains(t)) {
                at++;
                int c = number(0, 7);
                return w -> w.get(t).apply(c);
            }
            throw fault();
        }
    }

    World w = new World();
    final World[] images = new World[2];
    final byte[] tape = new byte[400];
    int bytes;
    final Deque<World> ahead = new ArrayDeque<>();
    final Deque<Integer> kinds = new ArrayDeque<>();
    World harvested = new World();
    final int[] refusals = new int[7];
    int status;
    int leaks;
    int fault = -1;
    int stopped = -1;

    interface Call {
        long run();
    }

    private int told(Call call) {
        status = 0;
        try {
            return (int) call.run();
        } catch (Refused r) {
            status = r.by;
            refusals[-r.by]++;
            return r.by;
        }
    }

    private static void check(int by, boolean fine) {
        if (!fine) {
            throw new Refused(by);
        }
    }

    private void noUndo() {
        ahead.clear();
        kinds.clear();
    }

    private void keep(World was, int kind) {
        ahead.push(was);
        kinds.push(kind);
        if (ahead.size() > 16) {
            ahead.removeLast();
            kinds.removeLast();
        }
    }

    int cask(int tier, int size) {
        return told(() -> {
            check(-1, tier >= 0 && tier <= 4 && size >= 1 && size <= 999);
            check(-5, w.casks.size() < 8);
            w.casks.add(new Cask(tier, size));
            noUndo();
            return w.casks.size() - 1;
        });
    }

    int of(int cask, int what) {
        if (!w.has(cask) || what < 0 || what > 27) {
            return -1;
        }
        Cask k = w.casks.get(cask);
        long[] facts = {k.tier, k.size, k.all(), k.mean(), k.label(w.terms[3]), w.loses(w.inForce(), cask),
            w.yields(cask), w.barred(cask) ? 1 : 0};
        return (int) (what < 8 ? facts[what] : k.drops[what - 8]);
    }

    long old(int cask, int a) {
        if (!w.has(cask) || a < 0 || a > 19 || w.casks.get(cask).all() == 0) {
            return -1;
        }
        return w.casks.get(cask).from(a) * 1_000_000_000_000L / w.casks.get(cask).all();
    }

    int terms(int what, int value) {
        return told(() -> {
            int[][] limits = {{0, 999}, {0, 10}, {0, 9}, {1, 100}};
            check(-1, what >= 0 && what < 4 && value >= limits[what][0] && value <= limits[what][1]);
            int was = w.terms[what];
            w.terms[what] = value;
            noUndo();
            return was;
        });
    }

    int feed(int a, int b, int c, int d, int e) {
        if (bytes > 380) {
            return -1;
        }
        java.nio.ByteBuffer.wrap(tape, bytes, 20).putInt(a).putInt(b).putInt(c).putInt(d).putInt(e);
        bytes += 20;
        return bytes;
    }

    int end(int n) {
        if (n < 0 || n > bytes) {
            return -1;
        }
        bytes = n;
        return n;
    }

    int row() {
        return told(() -> {
            check(-6, bytes > 0);
            leaks = 0;
            int came = 0;
            for (int i = 0; i < bytes; i += 3) {
                if (i + 3 > bytes || w.casks.size() == 8) {
                    leaks++;
                    continue;
                }
                int tier = tape[i] & 255;
                int size = tape[i + 1] & 255;
                int n = tape[i + 2] & 255;
                if (tier > 4 || size == 0 || n > size) {
                    leaks++;
                    continue;
                }
                Cask k = new Cask(tier, size);
                k.drops[0] = n * 1000L;
                w.casks.add(k);
                came++;
            }
            bytes = 0;
            noUndo();
            return came;
        });
    }

    int leaks() {
        return leaks;
    }

    private List<Clause> read(boolean law) {
        int length = bytes;
        bytes = 0;
        try {
            List<Clause> text = new Parser(tape, length, law).text();
            fault = -1;
            return text;
        } catch (Fault f) {
            fault = f.place;
            throw new Refused(-6);
        }
    }

    private int kept(List<List<Clause>> texts, int most, boolean law) {
        return told(() -> {
            if (texts.size() == most) {
                bytes = 0;
            }
            check(-5, texts.size() < most);
            texts.add(read(law));
            return texts.size() - 1;
        });
    }

    int law() {
        return kept(w.laws, 6, true);
    }

    int plan() {
        return kept(w.plans, 4, false);
    }

    int orders() {
        return told(() -> {
            stopped = -1;
            List<Clause> text = read(false);
            Run run = new Run(w.copy());
            stopped = run.orders(text);
            check(-3, stopped == -1);
            for (int i = 0; i < run.ahead.size(); i++) {
                keep(run.ahead.get(i), run.kinds.get(i));
            }
            w = run.w;
            return run.done;
        });
    }

    int fault() {
        return fault;
    }

    int stopped() {
        return stopped;
    }

    int force(int law) {
        return told(() -> {
            check(-2, law >= -1 && law < w.laws.size());
            int was = w.force;
            w.force = law;
            return was;
        });
    }

    private int work(int kind, Call call) {
        return told(() -> {
            World was = w.copy();
            long answer = call.run();
            keep(was, kind);
            return answer;
        });
    }

    int pour(int cask, int n) {
        return work(0, () -> w.pour(cask, n));
    }

    int rack(int from, int to, int n) {
        return work(1, () -> w.rack(from, to, n));
    }

    int bottle(int cask, int n) {
        return work(2, () -> w.bottle(cask, n));
    }

    int pass() {
        return work(3, () -> w.pass());
    }

    int undo() {
        return told(() -> {
            check(-3, !ahead.isEmpty());
            World was = ahead.pop();
            w.casks = was.casks;
            w.bottled = was.bottled;
            w.terms[0] = was.terms[0];
            return kinds.pop();
        });
    }

    private Run byPlan(int plan, int n) {
        Run run = new Run(w.copy());
        for (int i = 0; i < n; i++) {
            run.plan(w.plans.get(plan));
        }
        return run;
    }

    private boolean hasPlan(int plan) {
        return plan >= 0 && plan < w.plans.size();
    }

    int byPlan(int plan, int n, int cask, int what) {
        if (!hasPlan(plan) || n < 0 || n > 60 || !w.has(cask) || what < 0 || what > 2) {
            return -1;
        }
        Cask k = byPlan(plan, n).w.casks.get(cask);
        return (int) (what == 0 ? k.all() : what == 1 ? k.mean() : k.label(w.terms[3]));
    }

    int oldEnough(int plan, int cask, int m) {
        if (!hasPlan(plan) || !w.has(cask) || m < 0 || m > 19000) {
            return -1;
        }
        Run run = new Run(w.copy());
        for (int n = 0; n <= 60; n++) {
            long mean = run.w.casks.get(cask).mean();
            if (mean != -1 && mean >= m) {
                return n;
            }
            run.plan(w.plans.get(plan));
        }
        return -1;
    }

    int settled(int plan, int cask) {
        if (!hasPlan(plan) || !w.has(cask)) {
            return -1;
        }
        List<Long> means = new ArrayList<>();
        Run run = new Run(w.copy());
        for (int n = 0; n <= 60; n++) {
            means.add(run.w.casks.get(cask).mean());
            run.plan(w.plans.get(plan));
        }
        for (int n = 0; n < 60; n++) {
            if (means.get(n) != -1 && means.get(n).equals(means.get(n + 1))) {
                return n;
            }
        }
        return -1;
    }

    int starves(int plan) {
        if (!hasPlan(plan)) {
            return -1;
        }
        Run run = new Run(w.copy());
        for (int n = 0; n < 60; n++) {
            run.plan(w.plans.get(plan));
            if (run.skipped) {
                return n;
            }
        }
        return -1;
    }

    int yields(int plan, int n) {
        return !hasPlan(plan) || n < 0 || n > 60 ? -1 : (int) byPlan(plan, n).bottles;
    }

    int best(int n, int m) {
        if (n < 0 || n > 60 || m < 0 || m > 19000) {
            return -1;
        }
        int best = -1;
        long most = -1;
        for (int p = 0; p < w.plans.size(); p++) {
            Run run = byPlan(p, n);
            if (run.means.stream().allMatch(x -> x >= m) && run.bottles > most) {
                best = p;
                most = run.bottles;
            }
        }
        return best;
    }

    int tasted(int fact, int n) {
        return told(() -> {
            check(-1, fact >= 0 && fact <= 2 && n >= 0 && n <= 999);
            check(-5, w.tasted.size() < 6);
            w.tasted.add(new int[] {fact, n});
            return w.tasted.size();
        });
    }

    int forget() {
        int were = w.tasted.size();
        w.tasted.clear();
        return were;
    }

    private long fact(int cask, int fact) {
        Cask k = w.casks.get(cask);
        long f = fact == 0 ? k.wholeMean() : fact == 1 ? k.all() / 1000 : k.label(w.terms[3]);
        return f == -1 ? 999 : f;
    }

    int canBe() {
        int bits = 0;
        for (int c = 0; c < w.casks.size(); c++) {
            int cask = c;
            if (w.tasted.stream().allMatch(t -> fact(cask, t[0]) == t[1])) {
                bits += 1 << c;
            }
        }
        return bits;
    }

    int taste(int what) {
        int bits = canBe();
        if (bits == 0 || what < 0 || what > 1) {
            return -1;
        }
        int bestFact = -1;
        int fewest = 99;
        for (int f = 0; f < 3; f++) {
            Map<Long, Integer> groups = new HashMap<>();
            for (int c = 0; c < w.casks.size(); c++) {
                if ((bits & 1 << c) != 0) {
                    groups.merge(fact(c, f), 1, Integer::sum);
                }
            }
            int most = groups.values().stream().max(Integer::compare).get();
            if (most < fewest) {
                fewest = most;
                bestFact = f;
            }
        }
        return what == 0 ? bestFact : fewest;
    }

    long few(int k, int n) {
        if (k < 1 || k > 20 || n < 0 || n > 99) {
            return -1;
        }
        long[] p = new long[n + 2];
        p[0] = 1_000_000_000_000L;
        for (int b = 0; b < n; b++) {
            long[] q = new long[n + 2];
            for (int j = 0; j <= b; j++) {
                q[j] += p[j] * (10 - w.terms[1]) / 10;
                q[j + 1] += p[j] * w.terms[1] / 10;
            }
            p = q;
        }
        return Arrays.stream(p, 0, Math.min(k, p.length)).sum();
    }

    int compare(int law, int cask) {
        if (law < -1 || law >= w.laws.size() || !w.has(cask)) {
            return -1;
        }
        return (int) w.lost(law == -1 ? List.of() : w.laws.get(law), cask);
    }

    private long seed;

    private int draw(int m) {
        seed = (seed * 1103 + 12345) % 1_000_003;
        return (int) (seed % m);
    }

    int harvests(int start, int n) {
        return told(() -> {
            check(-1, start >= 0 && start <= 1_000_000 && n >= 1 && n <= 60);
            check(-3, !w.casks.isEmpty());
            World h = w.copy();
            seed = start;
            long bottles = 0;
            for (int i = 0; i < n && h.terms[0] < 999; i++) {
                int first = draw(h.casks.size());
                int second = draw(h.casks.size());
                int many = draw(9) + 1;
                int kind = draw(4);
                try {
                    if (kind == 0) {
                        h.pour(first, many);
                    } else if (kind == 1) {
                        h.rack(first, second, many);
                    } else if (kind == 2) {
                        h.bottle(first, many);
                        bottles += many;
                    }
                } catch (Refused r) {
                    // nothing comes of it
                }
                h.year();
            }
            harvested = h;
            return bottles;
        });
    }

    int drawn(int cask, int what) {
        if (!harvested.has(cask) || what < 0 || what > 1) {
            return -1;
        }
        return (int) (what == 0 ? harvested.casks.get(cask).all() : harvested.casks.get(cask).mean());
    }

    int image(int k) {
        return told(() -> {
            check(-1, k == 0 || k == 1);
            images[k] = w.copy();
            return 0;
        });
    }

    int back(int k) {
        return told(() -> {
            check(-1, k == 0 || k == 1);
            check(-2, images[k] != null);
            w = images[k].copy();
            noUndo();
            return 0;
        });
    }

    int count(int what) {
        long[] counts = {w.casks.size(), w.bottled, w.tasted.size(), w.laws.size(), w.plans.size(), ahead.size(), bytes,
            refusals[1], refusals[2], refusals[3], refusals[5], refusals[6], w.force,
            w.terms[0], w.terms[1], w.terms[2], w.terms[3]};
        return what < 0 || what >= counts.length ? -1 : (int) counts[what];
    }

    int status() {
        return status;
    }
}
