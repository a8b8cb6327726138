/** What all tests share: it feeds texts, counts answers that are not due, and ends the test. */
final class Check {
    private int asked;
    private int wrong;

    void due(String call, long got, long want) {
        asked++;
        if (got != want) {
            wrong++;
            System.out.println(call + " answered " + got + ", due is " + want);
        }
    }

    void due(String call, boolean got, boolean want) {
        due(call, got ? 1 : 0, want ? 1 : 0);
    }

    /** Each answer of a row of calls, in turn. */
    void dueRow(String calls, int[] got, int... want) {
        due(calls + ", how many", got.length, want.length);
        for (int i = 0; i < got.length && i < want.length; i++) {
            due(calls + "[" + i + "]", got[i], want[i]);
        }
    }

    void end() {
        System.out.println(wrong == 0 ? asked + " answers are as due" : wrong + " answers are not as due");
        if (wrong != 0) {
            System.exit(1);
        }
    }

    /** Puts a text on the TAPE, 24 signs a call; what is on it then. */
    static int feed(ThirstHours x, String text) {
        int many = 0;
        for (int at = 0; at < text.length(); at += 24) {
            many = x.feed(eight(text, at), eight(text, at + 8), eight(text, at + 16));
        }
        return many;
    }

    private static long eight(String text, int from) {
        long bytes = 0;
        for (int i = from; i < from + 8; i++) {
            bytes = bytes << 8 | (i < text.length() ? text.charAt(i) & 255 : 0);
        }
        return bytes;
    }

    static int readPost(ThirstHours x, String text) {
        feed(x, text);
        return x.post();
    }

    static int readDays(ThirstHours x, String text) {
        feed(x, text);
        return x.days();
    }

    /** A new object with a POST that must be without a FAULT. */
    ThirstHours withPost(String text) {
        ThirstHours x = new ThirstHours();
        due("post() of " + text, readPost(x, text), 0);
        return x;
    }
}
