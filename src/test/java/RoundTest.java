/** Promise 23: round. */
public final class RoundTest {
    private static final Check CHECK = new Check();

    /** The end and all PLACES of the order, and NONE behind them. */
    private static void round(ThirstHours x, int person, int... due) {
        for (int i = 0; i <= 7; i++) {
            CHECK.due("round(" + person + ", " + i + ")", x.round(person, i), i < due.length ? due[i] : -1);
        }
    }

    private static String clock(String name, String place, int has) {
        return "clock " + name + " plain at " + place + " holds 999 has " + has + " sips 1;";
    }

    private static final String PLACES = "place a well 0;place b well 0;place c well 0;place d well 0;place e well 0;";

    public static void main(String[] args) {
        inTime();
        equalOrders();
        fivePlaces();
        overOthers();
        noneToDo();
        now();
        edges();
        CHECK.end();
    }

    /** He is at a, b is 2 off, c is 3 off b. */
    private static void inTime() {
        String ways = PLACES + "way a b 2;way b c 3;person p at a sips 0 has 0;person q at b sips 0 has 0;";
        round(CHECK.withPost(ways + clock("k", "b", 2)), 0, 2, 1);
        round(CHECK.withPost(ways + clock("k", "b", 1)), 0);
        round(CHECK.withPost(ways + clock("k", "b", 0)), 1, 0, 1);
        round(CHECK.withPost(ways + clock("k", "a", 0) + clock("l", "c", 5)), 0, 5, 0, 2);
        round(CHECK.withPost(ways + clock("k", "a", 0) + clock("l", "c", 4)), 0);
        round(CHECK.withPost(ways + clock("k", "c", 9) + clock("l", "a", 9) + clock("m", "b", 9)), 0, 5, 0, 1, 2);
        round(CHECK.withPost(ways + clock("k", "c", 9) + clock("l", "a", 9) + clock("m", "b", 9)), 1, 7, 0, 1, 2);
        round(CHECK.withPost(ways + clock("k", "c", 6) + clock("l", "a", 9) + clock("m", "b", 9)), 1, 8, 1, 2, 0);
        round(CHECK.withPost(ways + clock("k", "c", 6) + clock("l", "a", 7) + clock("m", "b", 9)), 1);
        round(CHECK.withPost(ways + clock("k", "c", 9) + clock("l", "c", 4)), 0);
        round(CHECK.withPost(ways + clock("k", "c", 4) + clock("l", "c", 9)), 0);
        round(CHECK.withPost(ways + clock("k", "d", 200)), 0);
        round(CHECK.withPost(ways + clock("k", "a", 0) + clock("l", "a", 5)), 0, 0, 0);
        round(CHECK.withPost(ways + clock("k", "a", 0) + clock("l", "a", 5)), 1);
    }

    private static void equalOrders() {
        String ways = PLACES + "way a b 1;way a c 1;way b c 1;person p at a sips 0 has 0;";
        round(CHECK.withPost(ways + clock("k", "c", 9) + clock("l", "b", 9)), 0, 2, 1, 2);
        round(CHECK.withPost(ways + clock("k", "c", 1) + clock("l", "b", 9)), 0, 2, 2, 1);
        round(CHECK.withPost(ways + clock("k", "c", 9) + clock("l", "b", 9) + clock("m", "a", 9)), 0, 2, 0, 1, 2);
        round(CHECK.withPost(PLACES + "way a b 2;way a c 1;way b c 1;person p at c sips 0 has 0;"
                + clock("k", "a", 9) + clock("l", "b", 9) + clock("m", "c", 9)), 0, 3, 0, 2, 1);
    }

    private static void fivePlaces() {
        String ways = PLACES + "way a b 1;way b c 1;way c d 1;way d e 1;way e a 1;person p at c sips 0 has 0;";
        String clocks = clock("k", "a", 99) + clock("l", "b", 99) + clock("m", "c", 99) + clock("n", "d", 99)
                + clock("o", "e", 99);
        round(CHECK.withPost(ways + clocks), 0, 4, 2, 1, 0, 4, 3);
        round(CHECK.withPost(ways + clocks + clock("r", "e", 2)), 0, 4, 2, 3, 4, 0, 1);
    }

    /** What lies on the way is poured at only in its turn. */
    private static void overOthers() {
        String ways = PLACES + "way a b 2;way b c 2;way a c 9;person p at a sips 0 has 0;";
        round(CHECK.withPost(ways + clock("k", "c", 4) + clock("l", "b", 2)), 0, 4, 1, 2);
        round(CHECK.withPost(ways + clock("k", "c", 4)), 0, 4, 2);
    }

    private static void noneToDo() {
        String ways = PLACES + "person p at a sips 0 has 0;";
        round(CHECK.withPost(ways), 0, 0);
        round(CHECK.withPost(ways + clock("k", "b", 241)), 0, 0);
        round(CHECK.withPost(ways + clock("k", "b", 240)), 0);
        round(CHECK.withPost(ways + clock("k", "a", 240) + clock("l", "b", 999)), 0, 0, 0);
        round(CHECK.withPost(ways + clock("k", "a", 241) + clock("l", "a", 5)), 0, 0, 0);
    }

    private static void now() {
        ThirstHours x = CHECK.withPost(PLACES + "way a b 2;way b c 2;person p at a sips 0 has 0;"
                + clock("k", "b", 4) + clock("l", "c", 6));
        round(x, 0, 4, 1, 2);
        x.hours(2);
        round(x, 0, 4, 1, 2);
        x.hours(1);
        round(x, 0);
        x.undo();
        x.go(0, 1);
        round(x, 0, 2, 1, 2);
        CHECK.due("nothing is changed", x.count(5), 4);
    }

    private static void edges() {
        ThirstHours x = CHECK.withPost(PLACES + "person p at a sips 0 has 0;" + clock("k", "a", 4));
        for (int i : new int[] {-1, 1, 4, Integer.MIN_VALUE, Integer.MAX_VALUE}) {
            CHECK.due("round(" + i + ", 0)", x.round(i, 0), -1);
        }
        for (int what : new int[] {-1, 2, 6, Integer.MIN_VALUE, Integer.MAX_VALUE}) {
            CHECK.due("round(0, " + what + ")", x.round(0, what), -1);
        }
    }
}
