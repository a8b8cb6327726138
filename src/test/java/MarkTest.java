/** Promises 31 and 32: mark, count. */
public final class MarkTest {
    private static final Check CHECK = new Check();
    private static final String POST = "place a well 50;place b well 5;way a b 1;"
            + "clock c plain at a holds 30 has 20 sips 1;clock d dew at a holds 30 has 0 sips 9;"
            + "person e at a sips 2 has 3;work w by e clock c hour 1 pays 9;work v by e clock c hour 2 pays 4;";

    public static void main(String[] args) {
        layAndGoBack();
        holdsAll();
        holdsWhatIsHeard();
        fourOfThem();
        wrongOnes();
        counts();
        CHECK.end();
    }

    private static void layAndGoBack() {
        ThirstHours x = CHECK.withPost(POST);
        CHECK.due("nothing is on it", x.mark(0, true), false);
        x.hours(2);
        CHECK.due("lay", x.mark(0, false), true);
        CHECK.due("laying undoes nothing", x.count(11), 1);
        x.hours(5);
        x.draw(0, 9);
        CHECK.due("go back", x.mark(0, true), true);
        CHECK.dueRow("as then", new int[] {x.count(5), x.well(0), x.count(11)}, 2, 50, 0);
        CHECK.due("nothing can be undone", x.undo(), false);
        x.hours(3);
        CHECK.due("go back once more", x.mark(0, true), true);
        CHECK.due("as then", x.count(5), 2);
        x.hours(4);
        CHECK.due("lay over it", x.mark(0, false), true);
        x.hours(1);
        CHECK.due("go back", x.mark(0, true), true);
        CHECK.due("as at last", x.count(5), 6);
        Check.feed(x, "place");
        x.mark(0, true);
        CHECK.due("the TAPE stays", x.count(12), 5);
    }

    private static int[] all(ThirstHours x) {
        int[] all = new int[80];
        int at = 0;
        for (int what = 0; what <= 13; what++) {
            all[at++] = what == 11 ? 0 : x.count(what);
        }
        for (int i = 0; i < 2; i++) {
            all[at++] = x.well(i);
            for (int what = 0; what < 8; what++) {
                all[at++] = x.timer(i, what);
                all[at++] = x.person(i, what);
                all[at++] = x.work(i, what);
            }
        }
        for (int what = 0; what < 4; what++) {
            all[at++] = x.judged(what);
            all[at++] = x.truth(what);
            all[at++] = x.laws(what);
        }
        return all;
    }

    private static void holdsAll() {
        ThirstHours x = CHECK.withPost(POST);
        x.mark(0, false);
        x.mark(1, false);
        final int[] first = all(x);
        x.go(0, 1);
        x.draw(0, 2);
        x.hours(3);
        Check.readDays(x, "hour 1;steal c 25;hour 9;");
        x.say(0, 5, 2);
        x.say(0, 8, 2);
        x.tell(3, 9);
        x.mark(2, false);
        final int[] second = all(x);
        Check.readDays(x, "hour 5;hour 5;pour e c 1;pour e c 1;");
        x.say(0, 8, 0);
        x.tell(4, 12);
        x.go(0, 0);
        x.pour(0, 0, 1);
        x.steal(0, 3);
        x.hours(20);
        x.mark(3, false);
        final int[] third = all(x);
        CHECK.due("go back to the second", x.mark(2, true), true);
        CHECK.dueRow("as at the second", all(x), second);
        CHECK.due("go back to the first", x.mark(1, true), true);
        CHECK.dueRow("as at the first", all(x), first);
        CHECK.due("go on to the third", x.mark(3, true), true);
        CHECK.dueRow("as at the third", all(x), third);
        x.say(0, 9, 9);
        x.tell(9, 9);
        Check.readDays(x, "");
        CHECK.due("go back to the second", x.mark(2, true), true);
        CHECK.dueRow("as at the second", all(x), second);
        Check.readPost(x, "");
        for (int i = 0; i < 4; i++) {
            CHECK.due("a POST takes the MARKS", x.mark(i, true), false);
        }
    }

    /** What is SAID, TOLD and read behind a MARK comes in the place of what stood there. */
    private static void holdsWhatIsHeard() {
        ThirstHours x = CHECK.withPost(POST);
        x.mark(0, false);
        x.say(0, 5, 2);
        x.tell(3, 9);
        Check.readDays(x, "hour 3;steal c 9;pour e c 1;");
        x.mark(1, false);
        final int[] second = all(x);
        x.mark(0, true);
        CHECK.dueRow("nothing is heard", new int[] {x.count(8), x.count(9), x.count(10)}, 0, 0, 0);
        x.say(0, 70, 9);
        x.tell(1, 2);
        Check.readDays(x, "draw e 1;go e b;draw e 50;");
        x.mark(2, false);
        final int[] third = all(x);
        x.mark(1, true);
        CHECK.dueRow("as at the second", all(x), second);
        x.mark(2, true);
        CHECK.dueRow("as at the third", all(x), third);
    }

    private static void fourOfThem() {
        ThirstHours x = new ThirstHours();
        for (int i = 0; i < 4; i++) {
            x.hours(i + 1);
            CHECK.due("lay", x.mark(i, false), true);
        }
        int[] due = {1, 3, 6, 10};
        for (int i = 3; i >= 0; i--) {
            CHECK.due("go back", x.mark(i, true), true);
            CHECK.due("hours", x.count(5), due[i]);
        }
    }

    private static void wrongOnes() {
        ThirstHours x = new ThirstHours();
        x.hours(1);
        for (int mark : new int[] {-1, 4, Integer.MIN_VALUE, Integer.MAX_VALUE}) {
            CHECK.due("mark(" + mark + ", false)", x.mark(mark, false), false);
            CHECK.due("mark(" + mark + ", true)", x.mark(mark, true), false);
        }
        CHECK.due("mark(3, true)", x.mark(3, true), false);
        CHECK.due("what can be undone stays", x.count(11), 1);
    }

    private static void counts() {
        ThirstHours x = CHECK.withPost(POST);
        x.hours(1);
        x.draw(0, 10);
        x.say(0, 1, 1);
        x.say(0, 1, 1);
        x.tell(1, 1);
        Check.readDays(x, "hour 1;hour 1;hour 1;");
        Check.feed(x, "abcd");
        int[] due = {2, 1, 2, 1, 2, 1, 1, 9, 3, 2, 1, 2, 4, 40 + 5 + 19 + 1 + 11};
        for (int what = 0; what < due.length; what++) {
            CHECK.due("count(" + what + ")", x.count(what), due[what]);
        }
        x.hours(1);
        CHECK.dueRow("in time, paid", new int[] {x.count(6), x.count(7)}, 2, 13);
        for (int what : new int[] {-1, 14, Integer.MIN_VALUE, Integer.MAX_VALUE}) {
            CHECK.due("count(" + what + ")", x.count(what), -1);
        }
    }
}
