/** Promises 4 and 16: DAYS, judged from the beginning. */
public final class JudgedTest {
    private static final Check CHECK = new Check();
    private static final String POST = "place a well 50;place b well 900;way a b 2;"
            + "clock k plain at a holds 30 has 3 sips 1;clock l plain at b holds 500 has 500 sips 0;"
            + "person e at a sips 1 has 40;person f at b sips 2 has 5;"
            + "work u by e clock k hour 2 pays 3;work v by e clock k hour 5 pays 8;"
            + "work w by f clock l hour 3 pays 20;work x by f clock l hour 2 pays 50;";

    private static void judged(String days, int cannot, int bad, int paid) {
        ThirstHours x = CHECK.withPost(POST);
        CHECK.due("days() of " + days, Check.readDays(x, days), 0);
        x.hours(7);
        x.steal(1, 400);
        int sips = x.count(13);
        CHECK.dueRow("judged of " + days, new int[] {x.judged(0), x.judged(1), x.judged(2)}, cannot, bad, paid);
        CHECK.due("nothing is changed", x.count(5) * 100000 + x.count(13), 700000 + sips);
    }

    public static void main(String[] args) {
        judged("", -1, -1, 0);
        judged("hour 1;", -1, -1, 0);
        judged("hour 2;", -1, -1, 53);
        judged("hour 3;", -1, 0, 53);
        judged("draw f 1;hour 3;", -1, -1, 73);
        judged("hour 1;hour 1;hour 1;", -1, 2, 53);
        judged("pour e k 2;draw f 3;hour 24;", -1, -1, 81);
        judged("pour f k 2;draw f 3;hour 3;pour e k 20;hour 24;", 0, -1, 81);
        judged("draw f 3;hour 4;pour e k 20;hour 1;hour 1;", -1, 4, 73);
        judged("steal k 2;hour 1;pour e k 10;draw f 3;hour 3;hour 3;", -1, -1, 81);
        judged("steal k 2;hour 2;pour e k 10;draw f 3;hour 1;", -1, 4, 70);
        judged("steal k 4;steal l 500;pour e k 28;", 0, -1, 0);
        judged("pour e k 27;pour e k 1;", 1, -1, 0);
        judged("pour e k 1;draw e 51;pour e k 30;", 1, -1, 0);
        judged("go e a;", 0, -1, 0);
        judged("go e b;pour e k 1;", 1, -1, 53);
        judged("go e b;go e a;hour 24;", -1, 1, 53);
        judged("go e b;draw e 900;draw e 1;go f a;pour f k 3;", 2, 3, 53);
        judged("go e b;draw e 899;draw e 1;", -1, -1, 53);
        judged("steal k 3;hour 24;pour e k 1;hour 1;", -1, 1, 50);
        edges();
        CHECK.end();
    }

    private static void edges() {
        ThirstHours x = CHECK.withPost(POST);
        for (int what : new int[] {-1, -2, 3, Integer.MIN_VALUE, Integer.MAX_VALUE}) {
            CHECK.due("judged(" + what + ")", x.judged(what), -2);
        }
        Check.readDays(x, "hour 2;steal k 9;");
        Check.readDays(x, "hour x;");
        CHECK.due("a FAULT leaves the DAYS", x.judged(0), 1);
        Check.readDays(x, "steal k 9;");
        CHECK.due("new DAYS", x.judged(0), 0);
        CHECK.due("what can be undone", x.count(11), 0);
        Check.readPost(x, POST);
        CHECK.dueRow("a new POST has no DAYS", new int[] {x.judged(0), x.judged(1), x.judged(2)}, -1, -1, 0);
        Check.readDays(x, "hour 24;".repeat(40));
        CHECK.dueRow("forty days", new int[] {x.judged(0), x.judged(1), x.judged(2)}, -1, 0, 53);
    }
}
