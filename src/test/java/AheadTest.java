/** Promises 17, 18 and 19: shows, stops, late; each is what hours by hand would bring. */
public final class AheadTest {
    private static final Check CHECK = new Check();
    private static final int[] FAR = {-1, 6, Integer.MIN_VALUE, Integer.MAX_VALUE};

    public static void main(String[] args) {
        byHand();
        stopEdges();
        showEdges();
        lateOnes();
        lateFirst();
        CHECK.end();
    }

    private static ThirstHours made() {
        return CHECK.withPost("place a well 0;clock k plain at a holds 90 has 60 sips 2;"
                + "clock l old at a holds 90 has 50 sips 1;clock m milk at a holds 90 has 30 sips 3;"
                + "clock n dew at a holds 9 has 2 sips 1;clock o dew at a holds 40 has 40 sips 4;"
                + "clock p plain at a holds 9 has 5 sips 0;heat 9 to 15 2;heat 20 to 21 1;thirst base+hot*(base<4);");
    }

    private static void byHand() {
        for (int past = 0; past <= 30; past += 5) {
            ThirstHours x = made();
            if (past > 0) {
                x.hours(Math.min(past, 24));
            }
            if (past > 24) {
                x.hours(past - 24);
            }
            int[] shows = new int[6 * 60];
            int[] stops = {-1, -1, -1, -1, -1, -1};
            for (int i = 0; i < shows.length; i++) {
                shows[i] = x.shows(i % 6, i / 6);
            }
            int[] told = new int[6];
            for (int c = 0; c < 6; c++) {
                told[c] = x.stops(c);
            }
            CHECK.due("nothing is changed", x.count(5), past);
            for (int h = 0; h < 60; h++) {
                for (int c = 0; c < 6; c++) {
                    CHECK.due("shows(" + c + ", " + h + ") from hour " + past, shows[h * 6 + c], x.timer(c, 5));
                }
                x.hours(1);
                for (int c = 0; c < 6; c++) {
                    stops[c] = stops[c] < 0 && x.timer(c, 6) == 1 ? h : stops[c];
                }
            }
            CHECK.dueRow("stops from hour " + past, told, stops);
        }
    }

    private static void stopEdges() {
        ThirstHours x = CHECK.withPost("place a well 0;clock k plain at a holds 999 has 240 sips 1;"
                + "clock l plain at a holds 999 has 241 sips 1;clock m plain at a holds 9 has 0 sips 1;"
                + "clock n plain at a holds 9 has 0 sips 0;clock o milk at a holds 999 has 120 sips 1;"
                + "clock p milk at a holds 9 has 0 sips 2;");
        CHECK.dueRow("stops", new int[] {x.stops(0), x.stops(1), x.stops(2), x.stops(3), x.stops(4), x.stops(5)},
                240, -1, 0, -1, 120, 0);
        x.hours(1);
        CHECK.dueRow("stops an hour on", new int[] {x.stops(0), x.stops(1), x.stops(2), x.stops(4)}, 239, 240, 0, 119);
        for (int c : FAR) {
            CHECK.due("stops(" + c + ")", x.stops(c), -1);
        }
    }

    private static void showEdges() {
        ThirstHours x = CHECK.withPost("place a well 0;clock k plain at a holds 999 has 999 sips 1;"
                + "clock l milk at a holds 999 has 999 sips 0;");
        CHECK.dueRow("shows", new int[] {x.shows(0, 0), x.shows(0, 240), x.shows(0, 241), x.shows(0, -1),
            x.shows(1, 240), x.shows(1, 1), x.shows(1, 2)}, 0, 240, -1, -1, 120, 0, 1);
        x.hours(1);
        CHECK.dueRow("shows an hour on", new int[] {x.shows(0, 0), x.shows(0, 240), x.shows(1, 1), x.shows(1, 2)},
                1, 241, 1, 1);
        for (int i : FAR) {
            CHECK.due("shows(" + i + ", 1)", x.shows(i, 1), -1);
        }
        CHECK.due("shows far", x.shows(0, Integer.MAX_VALUE) + x.shows(0, Integer.MIN_VALUE), -2);
    }

    private static void lateOnes() {
        ThirstHours x = CHECK.withPost("place a well 99;clock k plain at a holds 999 has 240 sips 1;"
                + "clock l dew at a holds 9 has 0 sips 3;clock m plain at a holds 9 has 3 sips 1;"
                + "person e at a sips 1 has 4;person f at a sips 0 has 0;"
                + "work s by e clock k hour 3 pays 1;work t by e clock k hour 5 pays 1;"
                + "work u by f clock l hour 1 pays 1;work v by f clock m hour 4 pays 1;"
                + "work w by f clock k hour 9 pays 1;work x by e clock l hour 2 pays 1;");
        // t is missed in the 5th hour, u is late in the 3rd, x is missed in the 6th; v is never done
        int[] due = {0, 0, 4, 4, 6, 38, 38, 38, 38, 38};
        for (int h = 1; h <= due.length; h++) {
            CHECK.due("late(" + h + ", NONE)", x.late(h, -1), due[h - 1]);
            CHECK.due("late(" + h + ", 0)", x.late(h, 0), h < 3 ? -1 : 2);
        }
        CHECK.due("late(240, NONE)", x.late(240, -1), 38);
        x.hours(3);
        CHECK.dueRow("late, u being done", new int[] {x.late(1, -1), x.late(1, 0), x.late(2, -1), x.late(2, 0),
            x.late(9, -1), x.late(9, 0)}, 0, -1, 2, 1, 34, 1);
        x.hours(24);
        CHECK.dueRow("late, all being done", new int[] {x.late(240, -1), x.late(240, 0)}, 0, -1);
        CHECK.due("nothing is changed", x.count(5), 27);
        for (int what : new int[] {-2, 1, Integer.MIN_VALUE, Integer.MAX_VALUE}) {
            CHECK.due("late(1, " + what + ")", x.late(1, what), -2);
        }
        for (int hours : new int[] {0, -1, 241, Integer.MIN_VALUE, Integer.MAX_VALUE}) {
            CHECK.due("late(" + hours + ", 0)", x.late(hours, 0), -2);
            CHECK.due("late(" + hours + ", NONE)", x.late(hours, -1), -2);
        }
    }

    /** The first by the hour in which it comes, of equal ones the first told. */
    private static void lateFirst() {
        ThirstHours x = CHECK.withPost("place a well 0;clock k plain at a holds 9 has 9 sips 0;"
                + "clock l dew at a holds 9 has 0 sips 5;person e at a sips 1 has 0;"
                + "work s by e clock l hour 1 pays 1;work t by e clock k hour 4 pays 1;"
                + "work u by e clock k hour 3 pays 1;work v by e clock k hour 3 pays 1;");
        CHECK.dueRow("late", new int[] {x.late(2, 0), x.late(3, 0), x.late(9, 0), x.late(9, -1), x.late(4, -1)},
                -1, 2, 2, 15, 14);
        x.hours(4);
        CHECK.dueRow("late", new int[] {x.late(9, 0), x.late(9, -1)}, 0, 1);
        ThirstHours y = CHECK.withPost("place a well 0;clock k plain at a holds 9 has 9 sips 0;person e at a sips 1 has 0;"
                + "work p by e clock k hour 2 pays 1;work q by e clock k hour 2 pays 1;work r by e clock k hour 2 pays 1;"
                + "work s by e clock k hour 2 pays 1;work t by e clock k hour 2 pays 1;work u by e clock k hour 1 pays 1;");
        CHECK.dueRow("late", new int[] {y.late(1, 0), y.late(2, 0), y.late(1, -1), y.late(2, -1)}, 5, 5, 32, 63);
    }
}
