/** Promise 27: theft; each answer is what stealing by hand at each hour brings. */
public final class TheftTest {
    private static final Check CHECK = new Check();

    public static void main(String[] args) {
        byHand("plain at a holds 40 has 23 sips 3;heat 2 to 4 2", 10);
        byHand("old at a holds 40 has 25 sips 2;heat 5 to 6 3", 9);
        byHand("milk at a holds 40 has 17 sips 3", 9);
        byHand("dew at a holds 12 has 11 sips 2", 10);
        byHand("dew at a holds 5 has 5 sips 3;heat 1 to 1 4", 9);
        byHand("plain at a holds 30 has 24 sips 0;thirst 7-shown*2", 8);
        byHand("plain at a holds 30 has 24 sips 0;heat 3 to 5 9;thirst 1+hot*3", 9);
        byHand("old at a holds 30 has 24 sips 0;thirst shown+(shown=2)*9", 9);
        byHand("plain at a holds 9 has 0 sips 1", 3);
        byHand("plain at a holds 9 has 1 sips 0", 3);
        manySips();
        long48();
        edges();
        CHECK.end();
    }

    private static void byHand(String told, int mostHours) {
        String post = "place a well 0;clock z milk at a holds 9 has 9 sips 1;clock k " + told + ";";
        for (int hours = 1; hours <= mostHours; hours++) {
            int[] many = new int[hours + 1];
            int[] first = new int[hours + 1];
            int[] last = new int[hours + 1];
            java.util.Arrays.fill(first, -1);
            java.util.Arrays.fill(last, -1);
            ThirstHours x = CHECK.withPost(post);
            for (int h = 0; h < hours; h++) {
                x.mark(0, false);
                int has = x.timer(1, 3);
                for (int sips = 1; sips <= has; sips++) {
                    x.steal(1, sips);
                    x.hours(hours - h);
                    if (x.timer(1, 6) == 1) {
                        int shown = x.timer(1, 5);
                        many[shown]++;
                        first[shown] = first[shown] < 0 ? h : first[shown];
                        last[shown] = h;
                    }
                    x.mark(0, true);
                }
                x.hours(1);
            }
            for (int shown = 0; shown <= hours; shown++) {
                CHECK.dueRow("theft(1, " + shown + ", " + hours + ") of " + told, new int[] {
                    x.theft(1, shown, hours, 0), x.theft(1, shown, hours, 1), x.theft(1, shown, hours, 2)},
                        many[shown], first[shown], last[shown]);
            }
        }
    }

    /** 999 sips, one each hour: it stands still in hour 10 if at most 10 - h are left ahead of hour h. */
    private static void manySips() {
        ThirstHours x = CHECK.withPost("place a well 0;clock k plain at a holds 999 has 999 sips 1;");
        CHECK.dueRow("theft", new int[] {x.theft(0, 0, 1, 0), x.theft(0, 0, 1, 1), x.theft(0, 0, 1, 2)}, 1, 0, 0);
        CHECK.dueRow("theft", new int[] {x.theft(0, 4, 11, 0), x.theft(0, 4, 11, 1), x.theft(0, 4, 11, 2)}, 5, 0, 4);
        ThirstHours y = CHECK.withPost("place a well 0;clock k plain at a holds 999 has 999 sips 1;thirst 99;");
        CHECK.dueRow("theft", new int[] {y.theft(0, 0, 9, 0), y.theft(0, 0, 9, 1), y.theft(0, 0, 9, 2)}, 99, 0, 0);
        CHECK.dueRow("theft", new int[] {y.theft(0, 3, 9, 0), y.theft(0, 3, 9, 1), y.theft(0, 3, 9, 2)}, 396, 0, 3);
    }

    private static void long48() {
        ThirstHours x = CHECK.withPost("place a well 0;clock k plain at a holds 99 has 48 sips 1;");
        CHECK.dueRow("theft", new int[] {x.theft(0, 47, 48, 0), x.theft(0, 47, 48, 1), x.theft(0, 47, 48, 2)}, 48, 0, 47);
        CHECK.due("none", x.theft(0, 48, 48, 0), 0);
        x.hours(20);
        x.steal(0, 20);
        CHECK.due("from hour 0, whatever is now", x.theft(0, 47, 48, 0), 48);
        CHECK.due("nothing is changed", x.timer(0, 3), 8);
    }

    private static void edges() {
        ThirstHours x = CHECK.withPost("place a well 0;clock k plain at a holds 9 has 5 sips 1;");
        CHECK.dueRow("it stands still anyway", new int[] {x.theft(0, 5, 6, 0), x.theft(0, 5, 6, 1), x.theft(0, 9, 6, 0),
            x.theft(0, 9, 6, 1), x.theft(0, 9, 6, 2)}, 0, -1, 0, -1, -1);
        CHECK.dueRow("no such shown", new int[] {x.theft(0, -1, 6, 0), x.theft(0, -1, 6, 1),
            x.theft(0, Integer.MAX_VALUE, 6, 0), x.theft(0, Integer.MIN_VALUE, 6, 2)}, 0, -1, 0, -1);
        for (int c : new int[] {-1, 1, Integer.MIN_VALUE, Integer.MAX_VALUE}) {
            CHECK.due("theft(" + c + ", 1, 6, 0)", x.theft(c, 1, 6, 0), -1);
        }
        for (int hours : new int[] {0, -1, 49, Integer.MIN_VALUE, Integer.MAX_VALUE}) {
            CHECK.due("theft(0, 1, " + hours + ", 0)", x.theft(0, 1, hours, 0), -1);
        }
        for (int what : new int[] {-1, 3, Integer.MIN_VALUE, Integer.MAX_VALUE}) {
            CHECK.due("theft(0, 1, 6, " + what + ")", x.theft(0, 1, 6, what), -1);
        }
    }
}
