/** Promises 1 and 2: a new object has nothing; feed. */
public final class FeedTest {
    public static void main(String[] args) {
        Check check = new Check();
        newObject(check);
        bytes(check);
        leftOut(check);
        full(check);
        check.end();
    }

    private static void newObject(Check check) {
        ThirstHours x = new ThirstHours();
        for (int what = 0; what <= 13; what++) {
            check.due("count(" + what + ") of a new object", x.count(what), 0);
        }
        check.due("timer", x.timer(0, 0), -1);
        check.due("person", x.person(0, 0), -1);
        check.due("work", x.work(0, 0), -1);
        check.due("well", x.well(0), -1);
        check.due("way", x.way(0, 0), -1);
        check.due("undo", x.undo(), false);
        check.due("mark back", x.mark(0, true), false);
        check.due("post of nothing", x.post(), 0);
        check.due("days of nothing", x.days(), 0);
        check.due("hours", x.hours(1), 1);
        check.due("NONE", ThirstHours.NONE, -1);
    }

    /** The highest byte comes first, of a, then of b, then of c. */
    private static void bytes(Check check) {
        ThirstHours x = new ThirstHours();
        long a = 0x706c616365207061L;
        long b = 0x2077656c6c203132L;
        long c = 0x33340a3b00000000L;
        check.due("feed", x.feed(a, b, c), 20);
        check.due("signs on the TAPE", x.count(12), 20);
        check.due("post", x.post(), 0);
        check.due("the TAPE is taken", x.count(12), 0);
        check.due("well", x.well(0), 1234);
    }

    private static void leftOut(Check check) {
        ThirstHours x = new ThirstHours();
        for (int sign = 0; sign < 256; sign++) {
            boolean known = sign == 10 || sign >= 32 && sign <= 126;
            int many = x.count(12);
            check.due("feed of sign " + sign, x.feed(sign, 0, 0), many + (known ? 1 : 0));
        }
        check.due("negative bytes", new ThirstHours().feed(-1L, -1L, -1L), 0);
        check.due("the lowest byte of each", new ThirstHours().feed(65, 66, 67), 3);
    }

    private static void full(Check check) {
        ThirstHours x = new ThirstHours();
        long blanks = 0x2020202020202020L;
        for (int i = 0; i < 41; i++) {
            check.due("feed", x.feed(blanks, blanks, blanks), 24 * (i + 1));
        }
        check.due("feed to 1000", x.feed(blanks, 0x2020202020202021L, 0x2121212121212121L), 1000);
        check.due("feed beyond 1000", x.feed(blanks, 0, 0), 1000);
        check.due("the 1000th sign is the wrong one", x.post(), 999 * 16 + 1);
        check.due("feed anew", x.feed(65, 0, 0), 1);
    }
}
