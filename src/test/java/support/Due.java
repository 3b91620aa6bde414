import java.nio.charset.StandardCharsets;

/** What the tests share: counting wrong answers, and putting a text on a tape. */
final class Due {
    private int wrong;
    private int asked;
    private String test = "";

    /** What follows is of this test, until the next one starts. */
    void start(String name) {
        test = name + ": ";
    }

    void is(String call, long got, long want) {
        asked++;
        if (got != want) {
            wrong++;
            System.out.println(test + call + " answered " + got + ", due is " + want);
        }
    }

    void isTrue(String what, boolean holds) {
        is(what, holds ? 1 : 0, 1);
    }

    void finish() {
        System.out.println(wrong == 0 ? asked + " answers are as due" : wrong + " of " + asked + " answers are not as due");
        if (wrong != 0) {
            System.exit(1);
        }
    }

    static byte[] bytes(String text) {
        return text.getBytes(StandardCharsets.ISO_8859_1);
    }

    /** The numbers for feed(): twenty bytes a row, blanks behind the last. */
    static int[][] rows(byte[] bytes) {
        int[][] rows = new int[(bytes.length + 19) / 20][5];
        for (int i = 0; i < rows.length * 20; i++) {
            int b = i < bytes.length ? bytes[i] & 255 : 32;
            rows[i / 20][i % 20 / 4] |= b << (24 - 8 * (i % 4));
        }
        return rows;
    }

    static void put(SoleraCellar x, byte[] bytes) {
        x.end(0);
        for (int[] row : rows(bytes)) {
            x.feed(row[0], row[1], row[2], row[3], row[4]);
        }
        x.end(bytes.length);
    }

    static void put(SoleraCellar x, String text) {
        put(x, bytes(text));
    }

    static int law(SoleraCellar x, String text) {
        put(x, text);
        return x.law();
    }

    static int plan(SoleraCellar x, String text) {
        put(x, text);
        return x.plan();
    }

    static int orders(SoleraCellar x, String text) {
        put(x, text);
        return x.orders();
    }

    static int row(SoleraCellar x, int... bytes) {
        byte[] row = new byte[bytes.length];
        for (int i = 0; i < bytes.length; i++) {
            row[i] = (byte) bytes[i];
        }
        put(x, row);
        return x.row();
    }
}
