import java.util.Random;

/** Writes random texts of both languages, most of them right, some of them with a fault. */
final class Writer {
    private final Random random;
    private final boolean law;
    private final StringBuilder text = new StringBuilder();

    private Writer(Random random, boolean law) {
        this.random = random;
        this.law = law;
    }

    static byte[] law(Random random) {
        return new Writer(random, true).write();
    }

    static byte[] orders(Random random) {
        Writer writer = new Writer(random, false);
        return random.nextInt(3) == 0 ? writer.writeSolera() : writer.write();
    }

    /** What a cellar is run by in truth: the lowest drawn off, each filled up from above. */
    private byte[] writeSolera() {
        String[] clauses = {"bottle " + few() + " from 0", "rack " + few() + " from 1 in 0", "rack " + few() + " from 2 in 1",
            "pour " + few() + " in 2", "pour room 2 in 2", "bottle full 0/2 from 0", "rack room 0/2 from 1 in 0", "bottle " + few() + " from 3"};
        int many = 1 + random.nextInt(6);
        for (int i = 0; i < many; i++) {
            text.append(i > 0 ? ";" : "").append(one(clauses));
            if (random.nextInt(4) == 0) {
                text.append(" times ").append(1 + random.nextInt(20));
            }
            if (random.nextInt(2) == 0) {
                text.append(one(" if full 0>3", " if mean 0>2 and full 0>1", " if room 0>2", " if year%2=1", " if done<4",
                    " if latest>0-1", " if bottled<30", " if latest<2*1000 or full 1>4", " if not room 2=0"));
            }
        }
        return Due.bytes(text.toString());
    }

    private int few() {
        return 1 + random.nextInt(5);
    }

    private byte[] write() {
        int clauses = random.nextInt(12) == 0 ? 10 + random.nextInt(5) : 1 + random.nextInt(4);
        for (int i = 0; i < clauses; i++) {
            if (i > 0) {
                put(";");
            }
            clause();
        }
        if (random.nextInt(10) == 0) {
            spoil();
        }
        byte[] bytes = Due.bytes(text.toString());
        return bytes.length <= 400 ? bytes : java.util.Arrays.copyOf(bytes, 400);
    }

    private void spoil() {
        String signs = ";()[]<>=+-*/% 0123456789abcdefghilmnoprstuvxyz\u00e9\tA";
        int times = 1 + random.nextInt(3);
        for (int i = 0; i < times && text.length() > 1; i++) {
            int at = random.nextInt(text.length());
            int kind = random.nextInt(4);
            if (kind == 0) {
                text.setCharAt(at, signs.charAt(random.nextInt(signs.length())));
            } else if (kind == 1) {
                text.deleteCharAt(at);
            } else if (kind == 2) {
                text.insert(at, signs.charAt(random.nextInt(signs.length())));
            } else {
                text.setLength(at);
            }
        }
    }

    private void put(String token) {
        boolean letters = !token.isEmpty() && Character.isLetter(token.charAt(0));
        boolean behindLetters = text.length() > 0 && Character.isLetter(text.charAt(text.length() - 1));
        boolean digits = !token.isEmpty() && Character.isDigit(token.charAt(0));
        boolean behindDigits = text.length() > 0 && Character.isDigit(text.charAt(text.length() - 1));
        if (letters && behindLetters || digits && behindDigits || random.nextInt(4) == 0) {
            text.append(' ');
        }
        text.append(token);
    }

    private String one(String... words) {
        return words[random.nextInt(words.length)];
    }

    private void clause() {
        if (law) {
            String verb = one("loses", "loses", "yields", "yields", "bars");
            put(verb);
            if (!verb.equals("bars")) {
                sum(2);
            }
        } else {
            order();
            if (random.nextInt(4) == 0) {
                put("times");
                put("" + random.nextInt(random.nextInt(20) == 0 ? 22 : 6));
            }
        }
        if (random.nextInt(law ? 2 : 3) != 0 || law && text.indexOf("bars") >= 0) {
            put("if");
            test(3);
        }
    }

    private void order() {
        switch (random.nextInt(6)) {
            case 0: case 1:
                put("pour");
                amount();
                put("in");
                cask();
                break;
            case 2:
                put("rack");
                amount();
                put("from");
                int from = 1 + random.nextInt(5);
                put("" + from);
                put("in");
                if (random.nextInt(4) > 0) {
                    put("" + (from - 1));
                } else {
                    cask();
                }
                break;
            case 3: case 4:
                put("bottle");
                amount();
                put("from");
                cask();
                break;
            default:
                put("pass");
        }
    }

    private void amount() {
        if (random.nextInt(3) > 0) {
            put("" + (random.nextInt(12) == 0 ? random.nextInt(1000) : 1 + random.nextInt(4)));
        } else {
            sum(2);
        }
    }

    private void cask() {
        if (random.nextInt(6) > 0) {
            put("" + random.nextInt(5));
        } else {
            sum(1);
        }
    }

    private void sum(int depth) {
        term(depth);
        while (random.nextInt(4) == 0) {
            put(one("+", "-"));
            term(depth);
        }
    }

    private void term(int depth) {
        part(depth);
        while (random.nextInt(5) == 0) {
            put(one("*", "*", "/", "%"));
            part(depth);
        }
    }

    private void part(int depth) {
        int kind = random.nextInt(10);
        if (kind == 0 && depth > 0) {
            int times = random.nextInt(12) == 0 ? 1 + random.nextInt(9) : 1;
            for (int i = 0; i < times; i++) {
                put("[");
            }
            sum(depth - 1);
            for (int i = 0; i < times; i++) {
                put("]");
            }
        } else if (kind < 5) {
            put(random.nextInt(8) == 0 ? "" + random.nextInt(1003) : random.nextInt(20) == 0 ? "00" + random.nextInt(9) : "" + random.nextInt(12));
        } else if (law) {
            put(one("cask", "tier", "size", "full", "mean", "year", "mood"));
        } else {
            String word = one("year", "done", "latest", "bottled", "full", "room", "mean");
            put(word);
            if (word.equals("full") || word.equals("room") || word.equals("mean")) {
                put("" + random.nextInt(random.nextInt(30) == 0 ? 9 : 6));
            }
        }
    }

    private void test(int depth) {
        both(depth);
        while (random.nextInt(5) == 0) {
            put("or");
            both(depth);
        }
    }

    private void both(int depth) {
        plain(depth);
        while (random.nextInt(5) == 0) {
            put("and");
            plain(depth);
        }
    }

    private void plain(int depth) {
        while (random.nextInt(7) == 0) {
            put("not");
        }
        if (depth > 0 && random.nextInt(5) == 0) {
            put("(");
            test(depth - 1);
            put(")");
        } else {
            sum(1);
            put(one("<", ">", "="));
            sum(1);
        }
    }
}
