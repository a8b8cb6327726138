/** Promise 28: cups. */
public final class CupsTest {
    private static final Check CHECK = new Check();

    private static void cups(ThirstHours x, int holds, int hours, int many, int first) {
        CHECK.dueRow("cups(" + holds + ", " + hours + ")", new int[] {x.cups(holds, hours, 0), x.cups(holds, hours, 1)},
                many, first);
    }

    /** CLOCKS that need just so much an hour. */
    private static ThirstHours needing(int... sips) {
        StringBuilder told = new StringBuilder("place a well 0;");
        for (int i = 0; i < sips.length; i++) {
            told.append("clock ").append((char) ('k' + i)).append(" plain at a holds 9 has 0 sips ").append(sips[i]).append(';');
        }
        return CHECK.withPost(told.toString());
    }

    public static void main(String[] args) {
        packing();
        growing();
        kinds();
        fromNow();
        edges();
        CHECK.end();
    }

    private static void packing() {
        ThirstHours x = needing(5, 4, 3, 3, 2, 1);
        cups(x, 18, 1, 1, 63);
        cups(x, 17, 1, 2, 0b011111);
        cups(x, 9, 1, 2, 0b000011);
        cups(x, 8, 1, 3, 0b000101);
        cups(x, 6, 1, 3, 0b100001);
        cups(x, 5, 1, 4, 0b000001);
        cups(x, 4, 1, -1, -1);
        cups(x, 10, 2, 4, 0b000001);
        cups(x, 9, 2, -1, -1);
        cups(needing(6, 5, 4, 3, 3, 3), 12, 1, 2, 0b011001);
        cups(needing(9, 9, 9), 9, 1, 3, 1);
        cups(needing(9, 9, 9, 9, 9, 9), 9, 1, 6, 1);
        cups(needing(0, 0, 0, 0, 0, 0), 1, 99, 1, 63);
        cups(needing(1), 1, 1, 1, 1);
        cups(needing(1), 1, 2, -1, -1);
        cups(needing(9), 891, 99, 1, 1);
        cups(needing(9), 890, 99, -1, -1);
    }

    /** THIRST as if each went on: 0 + 1 + 2 .. for a plain one, half of it for a milk one that shows every second. */
    private static void growing() {
        ThirstHours x = CHECK.withPost("place a well 0;clock k plain at a holds 9 has 0 sips 0;"
                + "clock l milk at a holds 9 has 0 sips 0;thirst shown;");
        cups(x, 10, 5, 2, 1);
        cups(x, 9, 5, -1, -1);
        cups(x, 14, 5, 1, 3);
        cups(x, 13, 5, 1, 3);
        cups(x, 12, 5, 2, 1);
    }

    private static void kinds() {
        ThirstHours x = CHECK.withPost("place a well 0;clock k old at a holds 9 has 9 sips 2;"
                + "clock l dew at a holds 9 has 9 sips 2;clock m milk at a holds 9 has 9 sips 3;");
        cups(x, 60, 10, 1, 7);
        cups(x, 59, 10, 2, 3);
        cups(x, 39, 10, 3, 1);
        cups(x, 19, 10, -1, -1);
    }

    private static void fromNow() {
        ThirstHours x = CHECK.withPost("place a well 0;clock k plain at a holds 99 has 1 sips 1;"
                + "clock l milk at a holds 99 has 99 sips 1;heat 2 to 2 7;thirst base+hot+shown;");
        cups(x, 5, 2, 1, 3);
        cups(x, 4, 2, 2, 1);
        cups(x, 2, 2, -1, -1);
        x.hours(1);
        cups(x, 18, 2, 1, 3);
        cups(x, 17, 2, 2, 1);
        cups(x, 12, 2, 2, 1);
        cups(x, 11, 2, -1, -1);
        x.hours(2);
        CHECK.due("it stood still", x.timer(0, 5), 1);
        cups(x, 8, 2, 1, 3);
        cups(x, 7, 2, 2, 1);
        CHECK.due("nothing is changed", x.count(5), 3);
    }

    private static void edges() {
        ThirstHours x = new ThirstHours();
        cups(x, 1, 1, 0, 0);
        cups(x, 9999, 99, 0, 0);
        x = needing(1, 1);
        for (int holds : new int[] {0, -1, 10000, Integer.MIN_VALUE, Integer.MAX_VALUE}) {
            cups(x, holds, 1, -1, -1);
        }
        for (int hours : new int[] {0, -1, 100, Integer.MIN_VALUE, Integer.MAX_VALUE}) {
            cups(x, 9999, hours, -1, -1);
        }
        for (int what : new int[] {-1, 2, Integer.MIN_VALUE, Integer.MAX_VALUE}) {
            CHECK.due("cups(9, 1, " + what + ")", x.cups(9, 1, what), -1);
        }
        cups(x, 9999, 99, 1, 3);
    }
}
