/** Promise 30: years by draws. */
public final class YearsTest {
    private static final Check CHECK = new Check();

    public static void main(String[] args) {
        wholeYears();
        fromNow();
        oneClock();
        still();
        edges();
        CHECK.end();
    }

    private static long drawn;

    private static int drawBelow(int many) {
        drawn = (drawn * 1103515245L + 12345L) % 2147483648L;
        return (int) (drawn / 65536 % many);
    }

    /** Two plain CLOCKS and one PERSON, by a count of its own beside the class. */
    private static int[] counted(int seed, int hours, int[] has, int water) {
        int[] shown = new int[2];
        boolean[] stood = new boolean[2];
        int[] holds = {30, 9};
        int[] sips = {3, 2};
        int left = water;
        int dry = 0;
        int paid = 0;
        drawn = seed;
        for (int h = 0; h < hours; h++) {
            int lot = drawBelow(20);
            if (lot == 0) {
                has[0] = holds[0];
                has[1] = holds[1];
            } else if (lot == 1) {
                int robbed = drawBelow(2);
                has[robbed] -= has[robbed] / 2;
            }
            for (int c = 0; c < 2; c++) {
                stood[c] = has[c] < sips[c];
                has[c] -= stood[c] ? 0 : sips[c];
                shown[c] += stood[c] ? 0 : 1;
            }
            boolean isDry = left < 1;
            left -= isDry ? 0 : 1;
            dry += isDry ? 1 : 0;
            for (int c = 0; c < 2; c++) {
                boolean first = !stood[c] && shown[c] == 12 - 5 * c;
                paid += first && h + 1 == 12 - 5 * c && !isDry ? 7 + 4 * c : 0;
            }
        }
        return new int[] {paid, dry, (stood[0] ? 1 : 0) + (stood[1] ? 1 : 0)};
    }

    private static final String POST = "place a well 9;clock k plain at a holds 30 has 21 sips 3;"
            + "clock l plain at a holds 9 has 9 sips 2;person e at a sips 1 has 20;"
            + "work v by e clock k hour 12 pays 7;work w by e clock l hour 7 pays 11;";

    private static int[] years(ThirstHours x, int seed, int hours) {
        return new int[] {x.years(seed, hours, 0), x.years(seed, hours, 1), x.years(seed, hours, 2)};
    }

    private static void wholeYears() {
        ThirstHours x = CHECK.withPost(POST);
        int paid = 0;
        int dry = 0;
        int stood = 0;
        for (int seed = 0; seed <= 9999; seed += seed < 100 ? 1 : 33) {
            for (int hours = 1; hours <= 400; hours += hours < 30 ? 4 : 61) {
                int[] due = counted(seed, hours, new int[] {21, 9}, 20);
                CHECK.dueRow("years(" + seed + ", " + hours + ")", years(x, seed, hours), due);
                paid += due[0] > 0 ? 1 : 0;
                dry += due[1] > 0 ? 1 : 0;
                stood += due[2] == 2 ? 1 : 0;
            }
        }
        CHECK.due("all of it came", paid > 0 && dry > 0 && stood > 0, true);
        CHECK.due("all is as ahead", x.count(5) * 1000 + x.count(13), 59);
        CHECK.due("nothing can be undone", x.count(11), 0);
    }

    /** What was paid and who was DRY ahead of now does not count. */
    private static void fromNow() {
        ThirstHours x = CHECK.withPost("place a well 9;clock k plain at a holds 999 has 999 sips 1;"
                + "person e at a sips 0 has 9;person f at a sips 1 has 0;"
                + "work v by e clock k hour 2 pays 7;work w by e clock k hour 4 pays 11;");
        CHECK.dueRow("years", years(x, 7, 3), 7, 3, 0);
        x.hours(3);
        CHECK.dueRow("paid and DRY", new int[] {x.count(7), x.person(1, 3)}, 7, 3);
        CHECK.dueRow("years from now", years(x, 7, 3), 11, 3, 0);
        CHECK.dueRow("years from now", years(x, 7, 400), 11, 400, 0);
    }

    /** The thief comes to one CLOCK, too, and draws once more for it; he takes the lesser half. */
    private static void oneClock() {
        for (int seed = 0; seed < 60; seed++) {
            ThirstHours x = CHECK.withPost("place a well 9;clock k plain at a holds 9 has 3 sips 2;thirst base*(shown=0);");
            drawn = seed;
            int lot = drawBelow(20);
            CHECK.due("years(" + seed + ", 1, 2)", x.years(seed, 1, 2), 0);
            ThirstHours y = CHECK.withPost("place a well 9;clock k plain at a holds 9 has 3 sips 3;");
            CHECK.due("years(" + seed + ", 1, 2)", y.years(seed, 1, 2), lot == 1 ? 1 : 0);
        }
    }

    /** Each CLOCK that stands still at last counts one. */
    private static void still() {
        ThirstHours x = CHECK.withPost("place a well 9;clock k plain at a holds 9 has 9 sips 0;"
                + "clock l plain at a holds 1 has 1 sips 9;clock m plain at a holds 1 has 0 sips 9;"
                + "clock n old at a holds 1 has 0 sips 9;");
        CHECK.dueRow("years", years(x, 1, 1), 0, 0, 3);
        CHECK.dueRow("years", years(x, 1, 400), 0, 0, 3);
    }

    private static void edges() {
        ThirstHours x = new ThirstHours();
        CHECK.dueRow("years of nothing", years(x, 0, 1), 0, 0, 0);
        CHECK.dueRow("years of nothing", years(x, 9999, 400), 0, 0, 0);
        for (int seed : new int[] {-1, 10000, Integer.MIN_VALUE, Integer.MAX_VALUE}) {
            CHECK.dueRow("years(" + seed + ", 1)", years(x, seed, 1), -1, -1, -1);
        }
        for (int hours : new int[] {0, -1, 401, Integer.MIN_VALUE, Integer.MAX_VALUE}) {
            CHECK.dueRow("years(1, " + hours + ")", years(x, 1, hours), -1, -1, -1);
        }
        for (int what : new int[] {-1, 3, Integer.MIN_VALUE, Integer.MAX_VALUE}) {
            CHECK.due("years(1, 1, " + what + ")", x.years(1, 1, what), -1);
        }
    }
}
