/** The edges of promises 1, 31 and 32: a new object, MARKS, what is counted; a sentence each. */
public final class MarkEdgeTest {
    private static final Check CHECK = new Check();
    private static final int[] FAR = {Integer.MIN_VALUE, Integer.MAX_VALUE, 1 << 16, -(1 << 16)};

    public static void main(String[] args) {
        nothingAtFirst();
        noneIs();
        marksNoughtToThree();
        nothingOnIt();
        backIsRefused();
        undoneBehindBack();
        layingChangesNothing();
        backAndOnAgain();
        layOver();
        marksHoldAll();
        marksForgetWithPost();
        marksStayByFault();
        countWhats();
        countEmptyAndFull();
        sipsInAll();
        CHECK.end();
    }

    /** Promise 1: "Nothing." */
    private static void nothingAtFirst() {
        ThirstHours x = new ThirstHours();
        for (int what = 0; what <= 13; what++) {
            CHECK.due("count(" + what + ")", x.count(what), 0);
        }
        CHECK.due("hours pass all the same", x.hours(24), 24);
        CHECK.due("and are undone", x.undo(), true);
        CHECK.same("behind it", x, new ThirstHours());
        ThirstHours other = Check.lived();
        CHECK.same("beside another object", new ThirstHours(), new ThirstHours());
        CHECK.same("which is as it was", other, Check.lived());
    }

    private static void noneIs() {
        CHECK.due("NONE", ThirstHours.NONE, -1);
    }

    /** "MARKS 0 to 3"; "false: none such". */
    private static void marksNoughtToThree() {
        for (int mark = 0; mark <= 3; mark++) {
            ThirstHours x = new ThirstHours();
            CHECK.due("lay " + mark, x.mark(mark, false), true);
            x.hours(1);
            CHECK.due("go back to " + mark, x.mark(mark, true), true);
            CHECK.due("as then", x.count(5), 0);
            for (int other = 0; other <= 3; other++) {
                CHECK.due("MARK " + other, x.mark(other, true), other == mark);
            }
        }
        for (int mark : new int[] {-1, 4, 16, Integer.MIN_VALUE, Integer.MAX_VALUE}) {
            CHECK.refused("mark(" + mark + ", false)", Check::lived, x -> x.mark(mark, false) ? 1 : 0, 0);
            CHECK.refused("mark(" + mark + ", true)", Check::lived, x -> x.mark(mark, true) ? 1 : 0, 0);
        }
    }

    /** "false: .. nothing is on it (back)". */
    private static void nothingOnIt() {
        for (int mark = 0; mark <= 3; mark++) {
            int asked = mark;
            CHECK.refused("mark(" + mark + ", true) of a new object", ThirstHours::new, x -> x.mark(asked, true) ? 1 : 0, 0);
        }
    }

    /** What can't be gone back to leaves all, also what can be undone. */
    private static void backIsRefused() {
        CHECK.refused("mark(0, true)", Check::lived, x -> x.mark(0, true) ? 1 : 0, 0);
        CHECK.refused("mark(3, true)", Check::lived, x -> x.mark(3, true) ? 1 : 0, 0);
    }

    /** "(nothing can be undone when one is gone back to)". */
    private static void undoneBehindBack() {
        ThirstHours x = Check.lived();
        CHECK.due("ahead of it", x.count(11), 6);
        CHECK.due("back", x.mark(2, true), true);
        CHECK.due("what can be undone", x.count(11), 0);
        CHECK.due("undo", x.undo(), false);
        int hours = x.count(5);
        for (int i = 0; i < 17; i++) {
            x.hours(1);
        }
        for (int i = 0; i < 16; i++) {
            CHECK.due("undo what came then", x.undo(), true);
        }
        CHECK.due("and no more", x.undo(), false);
        CHECK.due("hours", x.count(5), hours + 1);
    }

    /** A MARK that is laid leaves all, also what can be undone. */
    private static void layingChangesNothing() {
        ThirstHours x = Check.lived();
        CHECK.due("lay", x.mark(3, false), true);
        CHECK.dueRow("all", Check.state(x), Check.state(Check.lived()));
        CHECK.due("undo", x.undo(), true);
        CHECK.due("what can be undone", x.count(11), 5);
    }

    /** A MARK stays when one goes back to it, and to another one. */
    private static void backAndOnAgain() {
        ThirstHours x = new ThirstHours();
        for (int mark = 0; mark <= 3; mark++) {
            x.hours(mark + 1);
            x.mark(mark, false);
        }
        int[] due = {1, 3, 6, 10};
        for (int mark : new int[] {0, 3, 3, 1, 2, 0, 0, 3}) {
            CHECK.due("back to " + mark, x.mark(mark, true), true);
            CHECK.due("hours", x.count(5), due[mark]);
            x.hours(5);
        }
    }

    private static void layOver() {
        ThirstHours x = new ThirstHours();
        x.hours(3);
        x.mark(1, false);
        x.hours(4);
        CHECK.due("lay over it", x.mark(1, false), true);
        x.hours(5);
        CHECK.due("back", x.mark(1, true), true);
        CHECK.due("to the later one", x.count(5), 7);
    }

    /** "hold the hour, CLOCKS, PEOPLE, wells, works, the DAYS, what is SAID, TOLD". */
    private static void marksHoldAll() {
        ThirstHours x = Check.lived();
        int[] due = Check.state(x);
        due[11] = 0;
        x.mark(0, false);
        x.go(2, 1);
        x.hours(24);
        x.draw(0, 9);
        x.pour(0, 0, 1);
        x.steal(1, 5);
        x.say(0, 99, 9);
        x.tell(7, 15);
        x.post();
        Check.feed(x, "steal k 1;");
        x.days();
        Check.feed(x, "place");
        CHECK.due("back", x.mark(0, true), true);
        CHECK.dueRow("all", Check.state(x), due);
        CHECK.due("one that was laid at first", x.mark(1, true), true);
        CHECK.dueRow("hour, lines, SAID, TOLD", new int[] {x.count(5), x.count(8), x.count(9), x.count(10)}, 0, 0, 0, 0);
    }

    /** A POST that is good leaves no MARK. */
    private static void marksForgetWithPost() {
        ThirstHours x = Check.lived();
        x.post();
        x.mark(0, false);
        x.mark(3, false);
        CHECK.due("a good POST", x.post(), 0);
        for (int mark = 0; mark <= 3; mark++) {
            CHECK.due("MARK " + mark, x.mark(mark, true), false);
        }
        x.mark(2, false);
        CHECK.due("laid anew", x.mark(2, true), true);
        CHECK.due("the others are not", x.mark(0, true), false);
    }

    /** By a POST with a FAULT, and by DAYS, the MARKS stay. */
    private static void marksStayByFault() {
        ThirstHours x = Check.lived();
        CHECK.due("a FAULT", x.post() % 16, 1);
        CHECK.due("DAYS", Check.readDays(x, "hour 1;"), 0);
        CHECK.dueRow("MARKS", new int[] {x.mark(0, true) ? 1 : 0, x.mark(1, true) ? 1 : 0, x.mark(2, true) ? 1 : 0,
            x.mark(3, true) ? 1 : 0}, 0, 1, 1, 0);
    }

    /** Promise 32: "NONE for another what." */
    private static void countWhats() {
        ThirstHours x = Check.lived();
        CHECK.dueRow("counts", new int[] {x.count(0), x.count(1), x.count(2), x.count(3), x.count(4), x.count(5), x.count(6),
            x.count(7), x.count(8), x.count(9), x.count(10), x.count(11), x.count(12)}, 3, 2, 4, 3, 4, 5, 1, 5, 5, 2, 1, 6, 5);
        CHECK.dueRow("others", new int[] {x.count(-1), x.count(14)}, -1, -1);
        for (int far : FAR) {
            CHECK.due("count(" + far + ")", x.count(far), -1);
        }
    }

    /** Each count at its most. */
    private static void countEmptyAndFull() {
        ThirstHours x = CHECK.withPost("place a well 1;place b well 1;place c well 1;place d well 1;place e well 1;"
                + "way a b 1;way a c 1;way a d 1;way a e 1;way b c 1;way b d 1;way b e 1;way c d 1;way c e 1;way d e 1;"
                + "clock f old at a holds 1 has 0 sips 0;clock g old at a holds 1 has 0 sips 0;"
                + "clock h old at a holds 1 has 0 sips 0;clock i old at a holds 1 has 0 sips 0;"
                + "clock j old at a holds 1 has 0 sips 0;clock k old at a holds 1 has 0 sips 0;"
                + "person l at a sips 0 has 0;person m at a sips 0 has 0;person n at a sips 0 has 0;person o at a sips 0 has 0;"
                + "work p by l clock f hour 1 pays 99;work q by l clock f hour 1 pays 99;work r by l clock f hour 1 pays 99;"
                + "work s by l clock f hour 1 pays 99;work t by l clock f hour 1 pays 99;work u by l clock k hour 1 pays 99;");
        Check.readDays(x, "hour 1;".repeat(40));
        for (int i = 0; i < 20; i++) {
            x.hours(24);
            x.say(0, 1, 1);
            x.tell(1, 1);
        }
        Check.feed(x, " ".repeat(1010));
        int[] due = {5, 10, 6, 4, 6, 480, 6, 594, 40, 10, 12, 16, 1000, 5};
        for (int what = 0; what <= 13; what++) {
            CHECK.due("count(" + what + ")", x.count(what), due[what]);
        }
    }

    /** "13: sips in all (wells, CLOCKS, PEOPLE)". */
    private static void sipsInAll() {
        ThirstHours x = CHECK.withPost("place a well 9999;place b well 9999;clock k plain at a holds 999 has 100 sips 5;"
                + "clock l dew at b holds 9 has 0 sips 9;person e at a sips 3 has 7;person f at b sips 0 has 40;");
        CHECK.due("at first", x.count(13), 19998 + 100 + 47);
        x.draw(0, 990);
        x.pour(0, 0, 899);
        CHECK.due("drawn and poured", x.count(13), 19998 + 100 + 47);
        x.steal(0, 999);
        CHECK.due("stolen", x.count(13), 19998 - 899 + 47);
        x.hours(1);
        CHECK.due("an hour: dew and what he drinks", x.count(13), 19998 - 899 + 47 + 1 - 3);
    }
}
