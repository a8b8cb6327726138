/** The edges of promises 1, 31 and 32: a new object, MARKS, what is counted; a sentence each. */
public final class MarkEdgeTest {
    private static final Check CHECK = new Check();
    private static final int[] FAR = {Integer.MIN_VALUE, Integer.MAX_VALUE, 1 << 16, -(1 << 16)};

    public static void main(String[] args) {
        nothingAtFirst();
        noneIs();
        marksNoughtToThree();
        nothingOnIt();
        backIsRefused();
        undoneBehindBack();
        layingChangesNothing();
        backAndOnAgain();
        layOver();
        marksHoldAll();
        marksHoldAllThereIs();
        marksHoldAllHeard();
        marksHoldAllLines();
        marksForgetWithPost();
        marksStayByFault();
        countWhats();
        countEmptyAndFull();
        sipsInAll();
        CHECK.end();
    }

    /** Promise 1: "Nothing." */
    private static void nothingAtFirst() {
        ThirstHours x = new ThirstHours();
        for (int what = 0; what <= 13; what++) {
            CHECK.due("count(" + what + ")", x.count(what), 0);
        }
        CHECK.due("hours pass all the same", x.hours(24), 24);
        CHECK.due("and are undone", x.undo(), true);
        CHECK.same("behind it", x, new ThirstHours());
        ThirstHours other = Check.lived();
        CHECK.same("beside another object", new ThirstHours(), new ThirstHours());
        CHECK.same("which is as it was", other, Check.lived());
    }

    private static void noneIs() {
        CHECK.due("NONE", ThirstHours.NONE, -1);
    }

    /** "MARKS 0 to 3"; "false: none such". */
    private static void marksNoughtToThree() {
        for (int mark = 0; mark <= 3; mark++) {
            ThirstHours x = new ThirstHours();
            CHECK.due("lay " + mark, x.mark(mark, false), true);
            x.hours(1);
            CHECK.due("go back to " + mark, x.mark(mark, true), true);
            CHECK.due("as then", x.count(5), 0);
            for (int other = 0; other <= 3; other++) {
                CHECK.due("MARK " + other, x.mark(other, true), other == mark);
            }
        }
        for (int mark : new int[] {-1, 4, 16, Integer.MIN_VALUE, Integer.MAX_VALUE}) {
            CHECK.refused("mark(" + mark + ", false)", Check::lived, x -> x.mark(mark, false) ? 1 : 0, 0);
            CHECK.refused("mark(" + mark + ", true)", Check::lived, x -> x.mark(mark, true) ? 1 : 0, 0);
        }
    }

    /** "false: .. nothing is on it (back)". */
    private static void nothingOnIt() {
        for (int mark = 0; mark <= 3; mark++) {
            int asked = mark;
            CHECK.refused("mark(" + mark + ", true) of a new object", ThirstHours::new, x -> x.mark(asked, true) ? 1 : 0, 0);
        }
    }

    /** What can't be gone back to leaves all, also what can be undone. */
    private static void backIsRefused() {
        CHECK.refused("mark(0, true)", Check::lived, x -> x.mark(0, true) ? 1 : 0, 0);
        CHECK.refused("mark(3, true)", Check::lived, x -> x.mark(3, true) ? 1 : 0, 0);
    }

    /** "(nothing can be undone when one is gone back to)". */
    private static void undoneBehindBack() {
        ThirstHours x = Check.lived();
        CHECK.due("ahead of it", x.count(11), 6);
        CHECK.due("back", x.mark(2, true), true);
        CHECK.due("what can be undone", x.count(11), 0);
        CHECK.due("undo", x.undo(), false);
        int hours = x.count(5);
        for (int i = 0; i < 17; i++) {
            x.hours(1);
        }
        for (int i = 0; i < 16; i++) {
            CHECK.due("undo what came then", x.undo(), true);
        }
        CHECK.due("and no more", x.undo(), false);
        CHECK.due("hours", x.count(5), hours + 1);
    }

    /** A MARK that is laid leaves all, also what can be undone. */
    private static void layingChangesNothing() {
        ThirstHours x = Check.lived();
        CHECK.due("lay", x.mark(3, false), true);
        CHECK.dueRow("all", Check.state(x), Check.state(Check.lived()));
        CHECK.due("undo", x.undo(), true);
        CHECK.due("what can be undone", x.count(11), 5);
    }

    /** A MARK stays when one goes back to it, and to another one. */
    private static void backAndOnAgain() {
        ThirstHours x = new ThirstHours();
        for (int mark = 0; mark <= 3; mark++) {
            x.hours(mark + 1);
            x.mark(mark, false);
        }
        int[] due = {1, 3, 6, 10};
        for (int mark : new int[] {0, 3, 3, 1, 2, 0, 0, 3}) {
            CHECK.due("back to " + mark, x.mark(mark, true), true);
            CHECK.due("hours", x.count(5), due[mark]);
            x.hours(5);
        }
    }

    private static void layOver() {
        ThirstHours x = new ThirstHours();
        x.hours(3);
        x.mark(1, false);
        x.hours(4);
        CHECK.due("lay over it", x.mark(1, false), true);
        x.hours(5);
        CHECK.due("back", x.mark(1, true), true);
        CHECK.due("to the later one", x.count(5), 7);
    }

    /** "hold the hour, CLOCKS, PEOPLE, wells, works, the DAYS, what is SAID, TOLD". */
    private static void marksHoldAll() {
        ThirstHours x = Check.lived();
        int[] due = Check.state(x);
        due[11] = 0;
        x.mark(0, false);
        x.go(2, 1);
        x.hours(24);
        x.draw(0, 9);
        x.pour(0, 0, 1);
        x.steal(1, 5);
        x.say(0, 99, 9);
        x.tell(7, 15);
        x.post();
        Check.feed(x, "steal k 1;");
        x.days();
        Check.feed(x, "place");
        CHECK.due("back", x.mark(0, true), true);
        CHECK.dueRow("all", Check.state(x), due);
        CHECK.due("one that was laid at first", x.mark(1, true), true);
        CHECK.dueRow("hour, lines, SAID, TOLD", new int[] {x.count(5), x.count(8), x.count(9), x.count(10)}, 0, 0, 0, 0);
    }

    /** All there is of as much as can be told, at four times; gone back to in any order. */
    private static void marksHoldAllThereIs() {
        ThirstHours x = CHECK.withPost(Check.all());
        int[][] due = new int[4][];
        for (int mark = 0; mark < 4; mark++) {
            Check.readDays(x, "hour 24;".repeat(10 * mark) + "steal k 999;");
            for (int i = 0; i < 3 * mark; i++) {
                x.say(i % 6, 10 * i, mark);
                x.tell(mark, i);
            }
            due[mark] = Check.state(x);
            due[mark][11] = 0;
            x.mark(mark, false);
            for (int deed = mark; deed < Check.ALL_DEEDS; deed += mark == 0 ? 5 : 1) {
                Check.deed(x, deed);
            }
        }
        for (int mark : new int[] {3, 0, 2, 1, 3, 1, 2, 0}) {
            CHECK.due("back to " + mark, x.mark(mark, true), true);
            CHECK.dueRow("all of MARK " + mark, Check.state(x), due[mark]);
        }
    }

    private static void hear(ThirstHours x, int heat, int drunk) {
        for (int i = 0; i < 10; i++) {
            x.say(0, i < 9 ? 100 : 100 + heat, i < 9 ? 90 : heat);
        }
        for (int i = 0; i < 12; i++) {
            x.tell(i < 11 ? 0 : heat, i < 11 ? 5 : drunk);
        }
    }

    /** Ten SAID and twelve TOLD, each to the last one, though others come in their stead. */
    private static void marksHoldAllHeard() {
        ThirstHours x = CHECK.withPost("place a well 0;clock k plain at a holds 9 has 0 sips 0;");
        x.mark(0, false);
        hear(x, 1, 8);
        x.mark(1, false);
        x.mark(0, true);
        hear(x, 2, 13);
        x.mark(2, false);
        for (int mark : new int[] {1, 2, 0, 2, 1, 1}) {
            x.mark(mark, true);
            CHECK.dueRow("heard by MARK " + mark, new int[] {x.count(9), x.count(10), x.truth(0), x.truth(1), x.laws(0),
                x.laws(1)}, mark == 0 ? new int[] {0, 0, 1099, 0, 100, 0}
                : new int[] {10, 12, 1 + 2 * mark, 100, 1, mark == 1 ? 53 : 54});
        }
    }

    /** Forty lines of DAYS, each to the last one, though others come in their stead. */
    private static void marksHoldAllLines() {
        ThirstHours x = CHECK.withPost("place a well 9;place b well 9;way a b 1;clock k plain at a holds 9 has 0 sips 9;"
                + "clock l plain at b holds 9 has 5 sips 9;person e at b sips 0 has 3;person f at a sips 0 has 2;");
        String[] lasts = {"steal l 5;", "steal l 6;", "pour e l 3;", "pour e l 4;", "draw f 8;", "go f b;", "go f a;",
            "steal k 5;", "pour f l 3;", "draw e 10;"};
        int[] due = {-1, 39, -1, 39, -1, -1, 39, 39, 39, 39};
        for (int i = 0; i < lasts.length; i++) {
            for (int j = 0; j < lasts.length; j++) {
                CHECK.due("DAYS", Check.readDays(x, "draw f 1;" + "go e a;go e b;".repeat(19) + lasts[i]), 0);
                x.mark(1, false);
                Check.readDays(x, "hour 1;".repeat(39) + lasts[j]);
                x.mark(2, false);
                x.mark(1, true);
                CHECK.dueRow("forty lines, the last of which is " + lasts[i], new int[] {x.count(8), x.judged(0)}, 40, due[i]);
                x.mark(2, true);
                CHECK.dueRow("forty lines, the last of which is " + lasts[j], new int[] {x.count(8), x.judged(0)}, 40, due[j]);
            }
        }
    }

    /** A POST that is good leaves no MARK. */
    private static void marksForgetWithPost() {
        ThirstHours x = Check.lived();
        x.post();
        x.mark(0, false);
        x.mark(3, false);
        CHECK.due("a good POST", x.post(), 0);
        for (int mark = 0; mark <= 3; mark++) {
            CHECK.due("MARK " + mark, x.mark(mark, true), false);
        }
        x.mark(2, false);
        CHECK.due("laid anew", x.mark(2, true), true);
        CHECK.due("the others are not", x.mark(0, true), false);
    }

    /** By a POST with a FAULT, and by DAYS, the MARKS stay. */
    private static void marksStayByFault() {
        ThirstHours x = Check.lived();
        CHECK.due("a FAULT", x.post() % 16, 1);
        CHECK.due("DAYS", Check.readDays(x, "hour 1;"), 0);
        CHECK.dueRow("MARKS", new int[] {x.mark(0, true) ? 1 : 0, x.mark(1, true) ? 1 : 0, x.mark(2, true) ? 1 : 0,
            x.mark(3, true) ? 1 : 0}, 0, 1, 1, 0);
    }

    /** Promise 32: "NONE for another what." */
    private static void countWhats() {
        ThirstHours x = Check.lived();
        CHECK.dueRow("counts", new int[] {x.count(0), x.count(1), x.count(2), x.count(3), x.count(4), x.count(5), x.count(6),
            x.count(7), x.count(8), x.count(9), x.count(10), x.count(11), x.count(12)}, 3, 2, 4, 3, 4, 5, 1, 5, 5, 2, 1, 6, 5);
        CHECK.dueRow("others", new int[] {x.count(-1), x.count(14)}, -1, -1);
        for (int far : FAR) {
            CHECK.due("count(" + far + ")", x.count(far), -1);
        }
    }

    /** Each count at its most. */
    private static void countEmptyAndFull() {
        ThirstHours x = CHECK.withPost("place a well 1;place b well 1;place c well 1;place d well 1;place e well 1;"
                + "way a b 1;way a c 1;way a d 1;way a e 1;way b c 1;way b d 1;way b e 1;way c d 1;way c e 1;way d e 1;"
                + "clock f old at a holds 1 has 0 sips 0;clock g old at a holds 1 has 0 sips 0;"
                + "clock h old at a holds 1 has 0 sips 0;clock i old at a holds 1 has 0 sips 0;"
                + "clock j old at a holds 1 has 0 sips 0;clock k old at a holds 1 has 0 sips 0;"
                + "person l at a sips 0 has 0;person m at a sips 0 has 0;person n at a sips 0 has 0;person o at a sips 0 has 0;"
                + "work p by l clock f hour 1 pays 99;work q by l clock f hour 1 pays 99;work r by l clock f hour 1 pays 99;"
                + "work s by l clock f hour 1 pays 99;work t by l clock f hour 1 pays 99;work u by l clock k hour 1 pays 99;");
        Check.readDays(x, "hour 1;".repeat(40));
        for (int i = 0; i < 20; i++) {
            x.hours(24);
            x.say(0, 1, 1);
            x.tell(1, 1);
        }
        Check.feed(x, " ".repeat(1010));
        int[] due = {5, 10, 6, 4, 6, 480, 6, 594, 40, 10, 12, 16, 1000, 5};
        for (int what = 0; what <= 13; what++) {
            CHECK.due("count(" + what + ")", x.count(what), due[what]);
        }
    }

    /** "13: sips in all (wells, CLOCKS, PEOPLE)". */
    private static void sipsInAll() {
        ThirstHours x = CHECK.withPost("place a well 9999;place b well 9999;clock k plain at a holds 999 has 100 sips 5;"
                + "clock l dew at b holds 9 has 0 sips 9;person e at a sips 3 has 7;person f at b sips 0 has 40;");
        CHECK.due("at first", x.count(13), 19998 + 100 + 47);
        x.draw(0, 990);
        x.pour(0, 0, 899);
        CHECK.due("drawn and poured", x.count(13), 19998 + 100 + 47);
        x.steal(0, 999);
        CHECK.due("stolen", x.count(13), 19998 - 899 + 47);
        x.hours(1);
        CHECK.due("an hour: dew and what he drinks", x.count(13), 19998 - 899 + 47 + 1 - 3);
    }
}
