/** Promises 5, 6, 7 and 10: an HOUR, and what it leaves of CLOCKS, PEOPLE and works. */
public final class HourTest {
    private static final Check CHECK = new Check();

    public static void main(String[] args) {
        plain();
        old();
        milk();
        dew();
        people();
        works();
        severalDry();
        shownInThirst();
        manyHours();
        others();
        CHECK.end();
    }

    /** A CLOCK's has, shows and still behind each of so many hours. */
    private static void runs(ThirstHours x, String name, int[][] due) {
        for (int h = 0; h < due.length; h++) {
            CHECK.due("hours", x.hours(1), h + 1);
            CHECK.dueRow(name + " behind hour " + h, new int[] {x.timer(0, 3), x.timer(0, 5), x.timer(0, 6)}, due[h]);
        }
    }

    private static ThirstHours clock(String told) {
        return CHECK.withPost("place a well 0;clock c " + told + ";");
    }

    private static void plain() {
        ThirstHours x = clock("plain at a holds 9 has 7 sips 2;heat 1 to 1 1;heat 3 to 3 3");
        runs(x, "plain", new int[][] {{5, 1, 0}, {2, 2, 0}, {0, 3, 0}, {0, 3, 1}, {0, 3, 1}});
        x = clock("plain at a holds 9 has 3 sips 2;heat 1 to 1 1;heat 2 to 2 0");
        runs(x, "plain that waits", new int[][] {{1, 1, 0}, {1, 1, 1}, {1, 1, 1}});
        x = clock("plain at a holds 9 has 3 sips 0;heat 1 to 2 5");
        runs(x, "plain that goes on", new int[][] {{3, 1, 0}, {3, 1, 1}, {3, 1, 1}, {3, 2, 0}});
    }

    private static void old() {
        ThirstHours x = clock("old at a holds 9 has 9 sips 2");
        runs(x, "old", new int[][] {{6, 1, 0}, {3, 2, 0}, {0, 3, 0}, {0, 3, 1}});
        x = clock("old at a holds 9 has 8 sips 2");
        runs(x, "old that leaks standing", new int[][] {{5, 1, 0}, {2, 2, 0}, {0, 3, 0}, {0, 3, 1}});
        x = clock("old at a holds 9 has 5 sips 4");
        runs(x, "old", new int[][] {{0, 1, 0}, {0, 1, 1}});
        x = clock("old at a holds 9 has 3 sips 4");
        runs(x, "old that stands and leaks", new int[][] {{2, 0, 1}, {1, 0, 1}, {0, 0, 1}, {0, 0, 1}});
    }

    private static void milk() {
        ThirstHours x = clock("milk at a holds 9 has 9 sips 3");
        runs(x, "milk", new int[][] {{7, 0, 0}, {5, 1, 0}, {3, 1, 0}, {1, 2, 0}, {1, 2, 1}, {1, 2, 1}});
    }

    private static void dew() {
        ThirstHours x = clock("dew at a holds 3 has 3 sips 2");
        runs(x, "dew", new int[][] {{1, 1, 0}, {0, 2, 0}, {1, 2, 1}, {0, 3, 0}, {1, 3, 1}, {0, 4, 0}, {0, 4, 1}});
        x = clock("dew at a holds 3 has 0 sips 9");
        runs(x, "dew that fills", new int[][] {{1, 0, 1}, {2, 0, 1}, {3, 0, 1}, {3, 0, 1}, {3, 0, 1}, {3, 0, 1}});
        x = clock("dew at a holds 9 has 0 sips 9");
        CHECK.due("hours", x.hours(24), 24);
        CHECK.due("six sips a day", x.timer(0, 3), 6);
        x.hours(2);
        CHECK.due("and so the next day", x.timer(0, 6) * 100 + x.timer(0, 3), 100 + 8);
        x.hours(1);
        CHECK.due("and it goes", x.timer(0, 3) * 100 + x.timer(0, 5), 1);
    }

    private static void people() {
        ThirstHours x = CHECK.withPost("place a well 0;person e at a sips 3 has 7;person f at a sips 0 has 0;"
                + "person g at a sips 1 has 1;");
        x.hours(3);
        CHECK.dueRow("e", new int[] {x.person(0, 0), x.person(0, 1), x.person(0, 2), x.person(0, 3)}, 0, 3, 1, 1);
        CHECK.dueRow("f", new int[] {x.person(1, 0), x.person(1, 1), x.person(1, 2), x.person(1, 3)}, 0, 0, 0, 0);
        CHECK.dueRow("g", new int[] {x.person(2, 0), x.person(2, 1), x.person(2, 2), x.person(2, 3)}, 0, 1, 0, 2);
    }

    private static void works() {
        ThirstHours x = CHECK.withPost("place a well 0;clock c plain at a holds 99 has 99 sips 1;"
                + "clock d plain at a holds 99 has 99 sips 0;person e at a sips 1 has 3;person f at a sips 0 has 0;"
                + "heat 1 to 1 9;thirst base+(base=0)*hot*99;"
                + "work u by e clock c hour 2 pays 4;work v by f clock c hour 4 pays 50;"
                + "work w by e clock c hour 4 pays 8;work x by f clock d hour 1 pays 16;"
                + "work y by f clock d hour 3 pays 32;work z by e clock d hour 4 pays 1;");
        x.steal(1, 99);
        int[][] due = {{0, 0, 0, 1, 0, 0}, {1, 0, 0, 1, 0, 0}, {1, 0, 0, 1, 0, 0}, {1, 1, 3, 1, 2, 0},
            {1, 1, 3, 1, 2, 3}, {1, 1, 3, 1, 2, 3}};
        for (int h = 0; h < due.length; h++) {
            x.hours(1);
            int[] done = new int[6];
            for (int w = 0; w < 6; w++) {
                done[w] = x.work(w, 4);
            }
            CHECK.dueRow("works behind hour " + h, done, due[h]);
        }
        CHECK.due("in time", x.count(6), 3);
        CHECK.due("paid", x.count(7), 4 + 50 + 16);
    }

    /** Each work looks at its own PERSON alone. */
    private static void severalDry() {
        ThirstHours x = CHECK.withPost("place a well 0;clock c plain at a holds 9 has 9 sips 0;"
                + "person e at a sips 1 has 0;person f at a sips 1 has 9;person g at a sips 2 has 1;person h at a sips 9 has 9;"
                + "work u by e clock c hour 1 pays 1;work v by f clock c hour 1 pays 2;work w by g clock c hour 1 pays 4;"
                + "work x by h clock c hour 1 pays 8;work y by h clock c hour 2 pays 16;work z by f clock c hour 2 pays 32;");
        x.hours(2);
        CHECK.dueRow("works", new int[] {x.work(0, 4), x.work(1, 4), x.work(2, 4), x.work(3, 4), x.work(4, 4), x.work(5, 4)},
                3, 1, 3, 1, 3, 1);
        CHECK.dueRow("DRY", new int[] {x.person(0, 3), x.person(1, 3), x.person(2, 3), x.person(3, 3)}, 2, 0, 2, 1);
        CHECK.due("paid", x.count(7), 42);
    }

    /** A thirst that grows with what is shown; CLOCKS do not see one another. */
    private static void shownInThirst() {
        ThirstHours x = CHECK.withPost("place a well 0;clock c plain at a holds 99 has 10 sips 0;"
                + "clock d plain at a holds 99 has 99 sips 0;thirst shown;");
        x.hours(5);
        CHECK.due("0 + 1 + 2 + 3 + 4", x.timer(0, 3), 0);
        CHECK.due("THIRST", x.timer(0, 7), 5);
        x.hours(1);
        CHECK.dueRow("c", new int[] {x.timer(0, 5), x.timer(0, 6), x.timer(0, 7)}, 5, 1, 5);
        CHECK.dueRow("d", new int[] {x.timer(1, 3), x.timer(1, 5), x.timer(1, 6)}, 99 - 15, 6, 0);
    }

    private static void manyHours() {
        ThirstHours x = clock("plain at a holds 99 has 50 sips 1;heat 23 to 23 1");
        CHECK.due("hours(24)", x.hours(24), 24);
        CHECK.due("has", x.timer(0, 3), 25);
        CHECK.due("hours(24)", x.hours(24), 48);
        CHECK.due("has", x.timer(0, 3), 0);
        CHECK.due("shows", x.timer(0, 5), 48);
    }

    private static void others() {
        ThirstHours x = CHECK.withPost("place a well 3;clock c plain at a holds 9 has 9 sips 1;"
                + "person e at a sips 1 has 1;work w by e clock c hour 1 pays 1;");
        int[] far = {-1, -2, 1, 6, Integer.MIN_VALUE, Integer.MAX_VALUE};
        for (int i : far) {
            CHECK.due("timer(" + i + ", 0)", x.timer(i, 0), -1);
            CHECK.due("person(" + i + ", 0)", x.person(i, 0), -1);
            CHECK.due("work(" + i + ", 0)", x.work(i, 0), -1);
            CHECK.due("well(" + i + ")", x.well(i), -1);
            CHECK.due("way(" + i + ", 0)", x.way(i, 0), -1);
            CHECK.due("way(0, " + i + ")", x.way(0, i), -1);
        }
        for (int what : new int[] {-1, 8, Integer.MIN_VALUE, Integer.MAX_VALUE}) {
            CHECK.due("timer(0, " + what + ")", x.timer(0, what), -1);
            CHECK.due("person(0, " + what + ")", x.person(0, what), -1);
            CHECK.due("work(0, " + what + ")", x.work(0, what), -1);
        }
        CHECK.due("person(0, 4)", x.person(0, 4), -1);
        CHECK.due("work(0, 5)", x.work(0, 5), -1);
        for (int many : new int[] {0, -1, 25, Integer.MIN_VALUE, Integer.MAX_VALUE}) {
            CHECK.due("hours(" + many + ")", x.hours(many), -1);
        }
        CHECK.due("no hour passed", x.count(5), 0);
        CHECK.due("nothing can be undone", x.count(11), 0);
    }
}
