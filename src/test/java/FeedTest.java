/** Promises 1 and 2: a new object, feed. */
public final class FeedTest {
    public static void main(String[] args) {
        Check check = new Check();
        ThirstHours x = new ThirstHours();
        check.due("feed", x.feed(0x6162630000000000L, 0, 0), 3);
        check.end();
    }
}
