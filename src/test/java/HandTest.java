/** Promises 8, 9 and 11 to 15: wells, ways, drawing, pouring, going, stealing, undoing. */
public final class HandTest {
    private static final Check CHECK = new Check();
    private static final int[] FAR = {-1, 3, Integer.MIN_VALUE, Integer.MAX_VALUE};

    private static ThirstHours made() {
        return CHECK.withPost("place a well 50;place b well 900;place c well 0;way a b 2;way c b 3;"
                + "clock k plain at a holds 30 has 10 sips 1;clock l old at b holds 500 has 9 sips 0;"
                + "clock m dew at c holds 9 has 9 sips 0;"
                + "person e at a sips 1 has 40;person f at b sips 0 has 500;person g at c sips 0 has 0;");
    }

    public static void main(String[] args) {
        drawing();
        pouring();
        ways();
        going();
        stealing();
        undoing();
        sixteen();
        CHECK.end();
    }

    private static void drawing() {
        ThirstHours x = made();
        CHECK.due("draw more than the well has", x.draw(0, 51), -1);
        CHECK.due("draw all", x.draw(0, 50), 90);
        CHECK.due("the well", x.well(0), 0);
        CHECK.due("draw from an empty well", x.draw(0, 1), -1);
        CHECK.due("draw beyond 999", x.draw(1, 500), -1);
        CHECK.due("draw to 999", x.draw(1, 499), 999);
        CHECK.due("draw when he has 999", x.draw(1, 1), -1);
        CHECK.due("the well", x.well(1), 401);
        CHECK.due("draw 0", x.draw(1, 0), -1);
        CHECK.due("draw -1", x.draw(1, -1), -1);
        CHECK.due("draw 1000", x.draw(1, 1000), -1);
        CHECK.due("draw far", x.draw(1, Integer.MAX_VALUE) + x.draw(1, Integer.MIN_VALUE), -2);
        for (int e : FAR) {
            CHECK.due("draw(" + e + ", 1)", x.draw(e, 1), -1);
        }
        CHECK.due("what can be undone", x.count(11), 2);
        CHECK.due("sips in all", x.count(13), 950 + 28 + 540);
        ThirstHours most = CHECK.withPost("place a well 1998;clock k plain at a holds 999 has 0 sips 0;"
                + "person e at a sips 0 has 0;");
        CHECK.due("draw 999", most.draw(0, 999), 999);
        CHECK.due("pour 999", most.pour(0, 0, 999), 999);
        CHECK.due("draw 999", most.draw(0, 999), 999);
        CHECK.due("the well", most.well(0), 0);
    }

    private static void pouring() {
        ThirstHours x = made();
        CHECK.due("pour more than it holds", x.pour(0, 0, 21), -1);
        CHECK.due("pour at another PLACE", x.pour(0, 1, 1), -1);
        CHECK.due("pour", x.pour(0, 0, 20), 30);
        CHECK.due("what he has", x.person(0, 2), 20);
        CHECK.due("pour into a full one", x.pour(0, 0, 1), -1);
        x.steal(0, 30);
        CHECK.due("pour more than he has", x.pour(0, 0, 21), -1);
        CHECK.due("pour all he has", x.pour(0, 0, 20), 20);
        CHECK.due("what he has", x.person(0, 2), 0);
        CHECK.due("pour 0", x.pour(1, 1, 0), -1);
        CHECK.due("pour -1", x.pour(1, 1, -1), -1);
        CHECK.due("pour 1000", x.pour(1, 1, 1000), -1);
        CHECK.due("pour far", x.pour(1, 1, Integer.MAX_VALUE) + x.pour(1, 1, Integer.MIN_VALUE), -2);
        for (int i : FAR) {
            CHECK.due("pour(" + i + ", 0, 1)", x.pour(i, 0, 1), -1);
            CHECK.due("pour(0, " + i + ", 1)", x.pour(0, i, 1), -1);
        }
        CHECK.due("pour of many", x.pour(1, 1, 491), 500);
        CHECK.due("sips in all", x.count(13), 950 + 28 + 540 - 30);
    }

    private static void ways() {
        ThirstHours x = CHECK.withPost("place a well 1;place b well 2;place c well 3;place d well 4;place e well 5;"
                + "way a b 9;way b c 1;way c a 2;way d e 7;");
        int[][] due = {{0, 3, 2, -1, -1}, {3, 0, 1, -1, -1}, {2, 1, 0, -1, -1}, {-1, -1, -1, 0, 7}, {-1, -1, -1, 7, 0}};
        for (int from = 0; from < 5; from++) {
            for (int to = 0; to < 5; to++) {
                CHECK.due("way(" + from + ", " + to + ")", x.way(from, to), due[from][to]);
            }
            CHECK.due("well", x.well(from), from + 1);
        }
        x = CHECK.withPost("place a well 1;place b well 2;place c well 3;place d well 4;place e well 5;"
                + "way e a 1;way a d 1;way d b 1;way b c 1;way e c 9;");
        CHECK.dueRow("ways over all", new int[] {x.way(4, 2), x.way(2, 4), x.way(0, 2), x.way(4, 3)}, 4, 4, 3, 2);
    }

    private static void going() {
        ThirstHours x = made();
        CHECK.due("go by no way of one step", x.go(0, 2), -1);
        CHECK.due("go where he is", x.go(0, 0), -1);
        CHECK.due("go", x.go(0, 1), 2);
        CHECK.due("he is there", x.person(0, 0), 1);
        CHECK.due("hours passed: a CLOCK", x.timer(0, 3), 8);
        CHECK.due("hours passed: a PERSON", x.person(0, 2), 38);
        CHECK.due("go back by the same way", x.go(0, 0), 4);
        CHECK.due("go", x.go(2, 1), 7);
        CHECK.due("he pours there", x.pour(1, 1, 5), 7);
        for (int i : FAR) {
            CHECK.due("go(" + i + ", 1)", x.go(i, 1), -1);
            CHECK.due("go(0, " + i + ")", x.go(0, i), -1);
        }
        CHECK.due("what can be undone", x.count(11), 4);
    }

    private static void stealing() {
        ThirstHours x = made();
        CHECK.due("steal more than it has", x.steal(0, 11), -1);
        CHECK.due("steal", x.steal(0, 3), 7);
        CHECK.due("steal all", x.steal(0, 7), 0);
        CHECK.due("steal of nothing", x.steal(0, 1), -1);
        CHECK.due("steal 0", x.steal(1, 0), -1);
        CHECK.due("steal -1", x.steal(1, -1), -1);
        CHECK.due("steal far", x.steal(1, Integer.MAX_VALUE) + x.steal(1, Integer.MIN_VALUE) + x.steal(1, 1000), -3);
        for (int c : FAR) {
            CHECK.due("steal(" + c + ", 1)", x.steal(c, 1), -1);
        }
        ThirstHours full = CHECK.withPost("place a well 0;clock k plain at a holds 999 has 999 sips 0;");
        CHECK.due("steal 999", full.steal(0, 999), 0);
    }

    private static int sum(ThirstHours x) {
        int sum = x.count(5) * 7 + x.count(13) * 11;
        for (int i = 0; i < 3; i++) {
            sum = sum * 31 + x.well(i);
            for (int what = 0; what < 8; what++) {
                sum = sum * 31 + x.timer(i, what) * 3 + x.person(i, what) + x.work(i, what) * 5;
            }
        }
        return sum;
    }

    private static void undoing() {
        ThirstHours x = CHECK.withPost("place a well 50;place b well 9;way a b 2;"
                + "clock k plain at a holds 30 has 3 sips 1;clock l milk at b holds 30 has 9 sips 2;"
                + "clock m dew at b holds 9 has 0 sips 2;person e at a sips 3 has 4;person f at b sips 0 has 2;"
                + "work u by e clock k hour 1 pays 5;work v by e clock k hour 2 pays 5;work w by f clock m hour 1 pays 5;");
        int[] sums = new int[7];
        sums[0] = sum(x);
        x.hours(2);
        sums[1] = sum(x);
        x.draw(0, 12);
        sums[2] = sum(x);
        x.pour(0, 0, 6);
        sums[3] = sum(x);
        x.go(0, 1);
        sums[4] = sum(x);
        x.steal(1, 2);
        sums[5] = sum(x);
        x.hours(24);
        sums[6] = sum(x);
        for (int i = 6; i > 0; i--) {
            CHECK.due("what can be undone", x.count(11), i);
            CHECK.due("all that was then, " + i, sum(x), sums[i]);
            CHECK.due("undo", x.undo(), true);
        }
        CHECK.due("all as at first", sum(x), sums[0]);
        CHECK.due("undo of nothing", x.undo(), false);
        x.say(0, 1, 1);
        x.tell(1, 1);
        x.hours(1);
        x.say(0, 1, 1);
        x.undo();
        CHECK.due("SAID is not undone", x.count(9), 2);
        CHECK.due("TOLD is not undone", x.count(10), 1);
    }

    private static void sixteen() {
        ThirstHours x = new ThirstHours();
        for (int i = 1; i <= 40; i++) {
            CHECK.due("hours", x.hours(1), i);
            CHECK.due("what can be undone", x.count(11), Math.min(i, 16));
        }
        for (int i = 39; i >= 24; i--) {
            CHECK.due("undo", x.undo(), true);
            CHECK.due("hours passed", x.count(5), i);
        }
        CHECK.due("the 17th undo", x.undo(), false);
        CHECK.due("hours passed", x.count(5), 24);
        x.hours(2);
        x.hours(3);
        CHECK.due("undo", x.undo(), true);
        CHECK.due("hours passed", x.count(5), 26);
        CHECK.due("what can be undone", x.count(11), 1);
    }
}
