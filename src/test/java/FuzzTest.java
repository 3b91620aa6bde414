import java.util.ArrayList;
import java.util.List;
import java.util.Random;

/**
 * Random runs of calls on the program and on the oracle, each answer compared. They go on behind the
 * 512th call, where nothing is promised, for the program counts no calls and fuller states come there.
 */
public final class FuzzTest {
    private static final int RUNS = 2500;
    private static final int TURNS = 512;

    private final Random random;
    private final SoleraCellar x = new SoleraCellar();
    private final Oracle y = new Oracle();
    private final List<String> calls = new ArrayList<>();
    private final boolean wild;

    private FuzzTest(long seed) {
        random = new Random(seed);
        wild = seed % 10 == 0;
    }

    public static void main(String[] args) {
        int runs = args.length > 0 ? Integer.parseInt(args[0]) : RUNS;
        int first = args.length > 1 ? Integer.parseInt(args[1]) : 0;
        for (int seed = first; seed < first + runs; seed++) {
            FuzzTest run = new FuzzTest(seed);
            if (!run.goes()) {
                System.out.println("seed " + seed);
                int from = Math.max(0, run.calls.size() - 60);
                run.calls.subList(from, run.calls.size()).forEach(System.out::println);
                System.exit(1);
            }
        }
        System.out.println(runs + " random runs are as due");
    }

    private boolean goes() {
        int casks = random.nextInt(9);
        for (int i = 0; i < casks; i++) {
            // Tiers in turn, so that a cask can often be racked into the one before it.
            int tier = random.nextInt(5) == 0 ? random.nextInt(5) : i % 3;
            int size = random.nextInt(4) == 0 ? 1 + random.nextInt(999) : 1 + random.nextInt(60);
            int n = 1 + random.nextInt(size);
            if (!same("cask " + tier + " " + size, x.cask(tier, size), y.cask(tier, size))
                || random.nextBoolean() && !same("pour " + i + " " + n, x.pour(i, n), y.pour(i, n))) {
                return false;
            }
        }
        int kinds = random.nextInt(3);
        for (int i = casks; i < TURNS; i++) {
            try {
                if (!(random.nextInt(3) < kinds ? asks() : works())) {
                    return false;
                }
            } catch (RuntimeException e) {
                calls.add("threw " + e);
                e.printStackTrace(System.out);
                return false;
            }
        }
        return observed();
    }

    private boolean same(String call, long got, long want) {
        calls.add(call + " = " + got);
        if (got != want) {
            calls.add("due is " + want);
        }
        return got == want;
    }

    private int number(int least, int most) {
        int kind = random.nextInt(wild ? 4 : 40);
        if (kind == 0) {
            int[] odd = {least - 1, most + 1, -1, -2, Integer.MIN_VALUE, Integer.MAX_VALUE, 0, random.nextInt()};
            return odd[random.nextInt(odd.length)];
        }
        if (kind == 1) {
            return random.nextBoolean() ? least : most;
        }
        return least + random.nextInt(most - least + 1);
    }

    private int someCask() {
        return number(0, Math.max(0, y.w.casks.size() - 1));
    }

    private int measures() {
        return number(1, random.nextInt(8) == 0 ? 999 : 8);
    }

    private boolean works() {
        int c = someCask();
        int d = random.nextInt(3) == 0 ? someCask() : Math.max(0, c - 1);
        int n = measures();
        switch (random.nextInt(wild ? 24 : 21)) {
            case 0: case 1: case 2: case 3:
                return same("pour " + c + " " + n, x.pour(c, n), y.pour(c, n));
            case 4: case 5: case 6:
                return same("rack " + c + " " + d + " " + n, x.rack(c, d, n), y.rack(c, d, n));
            case 7: case 8:
                return same("bottle " + c + " " + n, x.bottle(c, n), y.bottle(c, n));
            case 9: case 10: case 11:
                return same("pass", x.pass(), y.pass());
            case 12:
                return same("undo", x.undo(), y.undo());
            case 13: case 14:
                return tape(Writer.orders(random)) && same("orders", x.orders(), y.orders())
                    && same("fault", x.fault(), y.fault()) && same("stopped", x.stopped(), y.stopped());
            case 15:
                return tape(Writer.orders(random)) && same("plan", x.plan(), y.plan()) && same("fault", x.fault(), y.fault());
            case 16:
                return tape(Writer.law(random)) && same("law", x.law(), y.law()) && same("fault", x.fault(), y.fault());
            case 17: case 18: {
                int law = number(-1, Math.max(0, y.w.laws.size() - 1));
                return same("force " + law, x.force(law), y.force(law));
            }
            case 19: {
                int k = number(0, 1);
                return random.nextBoolean() ? same("image " + k, x.image(k), y.image(k)) : same("back " + k, x.back(k), y.back(k));
            }
            case 20: {
                int what = number(0, 3);
                int value = what == 0 ? number(random.nextInt(8) == 0 ? 980 : 0, random.nextInt(4) == 0 ? 999 : 990)
                    : what == 1 ? number(0, 10) : what == 2 ? number(0, 9) : number(1, 100);
                return random.nextInt(4) > 0 || same("terms " + what + " " + value, x.terms(what, value), y.terms(what, value));
            }
            case 21: {
                int tier = number(0, 4);
                int size = number(1, 999);
                return same("cask " + tier + " " + size, x.cask(tier, size), y.cask(tier, size));
            }
            case 22: {
                byte[] row = new byte[random.nextInt(10)];
                random.nextBytes(row);
                for (int i = 0; i < row.length; i += 3) {
                    row[i] = (byte) random.nextInt(6);
                }
                return tape(row) && same("row", x.row(), y.row()) && same("leaks", x.leaks(), y.leaks());
            }
            default: {
                int a = random.nextInt();
                return same("feed", x.feed(a, ~a, a * 7, a >> 3, a << 5), y.feed(a, ~a, a * 7, a >> 3, a << 5));
            }
        }
    }

    private boolean tape(byte[] bytes) {
        calls.add("tape '" + new String(bytes, java.nio.charset.StandardCharsets.ISO_8859_1) + "'");
        x.end(0);
        y.end(0);
        for (int[] r : Due.rows(bytes)) {
            if (!same("feed", x.feed(r[0], r[1], r[2], r[3], r[4]), y.feed(r[0], r[1], r[2], r[3], r[4]))) {
                return false;
            }
        }
        return same("end " + bytes.length, x.end(bytes.length), y.end(bytes.length));
    }

    private boolean asks() {
        int c = someCask();
        int p = number(0, Math.max(0, y.w.plans.size() - 1));
        int n = number(0, random.nextInt(5) == 0 ? 60 : 8);
        switch (random.nextInt(16)) {
            case 0: {
                int what = number(0, 27);
                return same("of " + c + " " + what, x.of(c, what), y.of(c, what));
            }
            case 1: {
                int a = number(0, 19);
                return same("old " + c + " " + a, x.old(c, a), y.old(c, a));
            }
            case 2: {
                int what = number(0, 2);
                return same("byPlan " + p + " " + n + " " + c + " " + what, x.byPlan(p, n, c, what), y.byPlan(p, n, c, what));
            }
            case 3: {
                int m = number(0, random.nextBoolean() ? 19000 : 4000);
                return same("oldEnough " + p + " " + c + " " + m, x.oldEnough(p, c, m), y.oldEnough(p, c, m));
            }
            case 4:
                return same("settled " + p + " " + c, x.settled(p, c), y.settled(p, c));
            case 5:
                return same("starves " + p, x.starves(p), y.starves(p));
            case 6:
                return same("yields " + p + " " + n, x.yields(p, n), y.yields(p, n));
            case 7: {
                int m = number(0, random.nextBoolean() ? 19000 : 3000);
                return same("best " + n + " " + m, x.best(n, m), y.best(n, m));
            }
            case 8: {
                int fact = number(0, 2);
                int told = random.nextInt(4) == 0 ? 999 : number(0, 5);
                return same("tasted " + fact + " " + told, x.tasted(fact, told), y.tasted(fact, told));
            }
            case 9:
                return same("canBe", x.canBe(), y.canBe());
            case 10: {
                int what = number(0, 1);
                return same("taste " + what, x.taste(what), y.taste(what))
                    && (random.nextInt(3) > 0 || same("forget", x.forget(), y.forget()));
            }
            case 11: {
                int k = number(1, 20);
                int many = number(0, 99);
                return same("few " + k + " " + many, x.few(k, many), y.few(k, many));
            }
            case 12: {
                int law = number(-1, Math.max(0, y.w.laws.size() - 1));
                return same("compare " + law + " " + c, x.compare(law, c), y.compare(law, c));
            }
            case 13: {
                int seed = number(0, 1_000_000);
                int many = number(1, 60);
                return same("harvests " + seed + " " + many, x.harvests(seed, many), y.harvests(seed, many));
            }
            case 14: {
                int what = number(0, 1);
                return same("drawn " + c + " " + what, x.drawn(c, what), y.drawn(c, what));
            }
            default:
                return random.nextInt(4) > 0 || observed();
        }
    }

    private boolean observed() {
        boolean fine = same("status", x.status(), y.status());
        for (int what = -1; fine && what < 18; what++) {
            fine = same("count " + what, x.count(what), y.count(what));
        }
        for (int c = 0; fine && c < y.w.casks.size(); c++) {
            for (int what = -1; fine && what < 29; what++) {
                fine = same("of " + c + " " + what, x.of(c, what), y.of(c, what));
            }
        }
        return fine && same("fault", x.fault(), y.fault()) && same("stopped", x.stopped(), y.stopped())
            && same("leaks", x.leaks(), y.leaks());
    }
}
