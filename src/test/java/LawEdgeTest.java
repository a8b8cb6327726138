/** The edges of E, by the THIRST of promise 5: nesting, what is so, wrapping, bounds; a sentence each. */
public final class LawEdgeTest {
    private static final Check CHECK = new Check();

    private static ThirstHours clock(String kind, int sips, int heat, String law) {
        return CHECK.withPost("place a well 0;clock c " + kind + " at a holds 999 has 999 sips " + sips + ";heat 0 to 23 "
                + heat + ";" + (law.isEmpty() ? "" : "thirst " + law + ";"));
    }

    private static void law(String law, int due) {
        CHECK.due("THIRST by " + law, clock("plain", 5, 3, law).timer(0, 7), due);
    }

    private static void bad(int kind, String law) {
        String text = "thirst " + law + ";";
        int at = text.indexOf('^');
        String told = text.substring(0, at) + text.substring(at + 1);
        CHECK.due("post() of " + text, Check.readPost(new ThirstHours(), told), kind + 16 * at);
    }

    public static void main(String[] args) {
        withinBrackets();
        withinNots();
        withinBoth();
        sideBySide();
        behindEachOther();
        oneComparison();
        emptyOnes();
        withoutThirst();
        baseEdges();
        hotEdges();
        kindEdges();
        shownEdges();
        whatIsSo();
        oneOrNought();
        lessAndSame();
        fromTheLeft();
        intsWrap();
        noLessThanNought();
        noMoreThan99();
        halfCutUpwards();
        CHECK.end();
    }

    /** "no PART lies within 5 of not and ( )": within 4 it may. */
    private static void withinBrackets() {
        law("(7)", 7);
        law("((((7))))", 7);
        bad(5, "(((((^7)))))");
        bad(5, "(((((^(((7))))))))");
        law("1+(1+(1+(1+(1+1))))-2", 4);
        bad(5, "1+(1+(1+(1+(1+(^1)))))");
    }

    private static void withinNots() {
        law("not 7", 0);
        law("not not not not 7", 1);
        bad(5, "not not not not not ^7");
        bad(5, "not not not not not ^not 7");
    }

    private static void withinBoth() {
        law("not (not (7))", 1);
        law("(not (not 7))", 1);
        bad(5, "not (not (not ^7))");
        bad(5, "(not (not (^7)))");
        bad(5, "not not not not (^7)");
        bad(5, "((((not ^7))))");
        bad(5, "((((1 and not ^7))))");
    }

    /** What stands beside a PART is not around it. */
    private static void sideBySide() {
        law("((((1))))+((((2))))*((((3))))", 7);
        law("not not not not 0+not not not not 9", 1);
        law("(((1)+((2)))*(3))", 9);
        bad(5, "((((1))))+(((((^2)))))");
    }

    /** Any number of TESTS, PRODUCTS, PARTS. */
    private static void behindEachOther() {
        law("1" + "+1".repeat(98), 99);
        law("1" + "+1".repeat(440) + "-342", 99);
        law("1" + "+1".repeat(440) + "-343", 98);
        law("1" + "*1".repeat(440), 1);
        law("0" + " or 0".repeat(170), 0);
        law("0" + " or 0".repeat(170) + " or 2", 1);
        law("1" + " and 1".repeat(120), 1);
        law("1" + " and 1".repeat(120) + " and 0", 0);
    }

    /** "TEST: SUM, or SUM < SUM, or SUM = SUM": no third. */
    private static void oneComparison() {
        law("1<2", 1);
        law("(1<2)<3", 1);
        bad(1, "1<2^<3");
        bad(1, "1<2^=3");
        bad(1, "1=2^=3");
        bad(1, "1=2^<3");
        law("1<2 and 1<2", 1);
    }

    private static void emptyOnes() {
        bad(1, "^");
        bad(1, "(^)");
        bad(1, "not ^");
        bad(1, "1+^");
        bad(1, "1-^");
        bad(1, "1*^");
        bad(1, "1<^");
        bad(1, "1=^");
        bad(1, "1 and ^");
        bad(1, "1 or ^");
        bad(1, "^-1");
        bad(1, "^*1");
        bad(1, "1 and ^or 1");
        bad(1, "(1^");
        bad(1, "1^)");
        bad(1, "1 ^1");
        bad(1, "1 ^(1)");
        bad(1, "1 ^not 1");
    }

    /** "Without thirst: base + hot." */
    private static void withoutThirst() {
        CHECK.due("0 + 0", clock("plain", 0, 0, "").timer(0, 7), 0);
        CHECK.due("9 + 9", clock("old", 9, 9, "").timer(0, 7), 18);
        CHECK.due("9 + 0", clock("dew", 9, 0, "").timer(0, 7), 9);
        CHECK.due("0 + 9", clock("plain", 0, 9, "").timer(0, 7), 9);
    }

    /** "base (the CLOCK's sips)". */
    private static void baseEdges() {
        CHECK.due("base 0", clock("plain", 0, 3, "base").timer(0, 7), 0);
        CHECK.due("base 9", clock("plain", 9, 3, "base").timer(0, 7), 9);
    }

    /** "hot (the hour's heat)". */
    private static void hotEdges() {
        CHECK.due("hot 0", clock("plain", 5, 0, "hot").timer(0, 7), 0);
        CHECK.due("hot 9", clock("plain", 5, 9, "hot").timer(0, 7), 9);
        ThirstHours x = CHECK.withPost("place a well 0;clock c plain at a holds 9 has 0 sips 0;heat 23 to 23 4;thirst hot;");
        x.hours(22);
        CHECK.due("ahead of the last hour of a day", x.timer(0, 7), 0);
        x.hours(1);
        CHECK.due("in the last hour of a day", x.timer(0, 7), 4);
        x.hours(1);
        CHECK.due("in the first hour of the next", x.timer(0, 7), 0);
        x.hours(23);
        CHECK.due("in the last hour of the next", x.timer(0, 7), 4);
    }

    /** "kind (0 plain, 1 old, 2 milk, 3 dew)"; a milk one's half of 2 is 1. */
    private static void kindEdges() {
        String[] kinds = {"plain", "old", "milk", "dew"};
        for (int i = 0; i < 4; i++) {
            for (int same = 0; same <= 4; same++) {
                CHECK.due(kinds[i] + " is " + same, clock(kinds[i], 0, 0, "kind=" + same).timer(0, 7), i == same ? 1 : 0);
            }
        }
        CHECK.due("kind of dew", clock("dew", 0, 0, "kind").timer(0, 7), 3);
    }

    /** "shown (what it shows)", from 0 on. */
    private static void shownEdges() {
        ThirstHours x = clock("plain", 0, 0, "shown*(shown<4)");
        for (int h = 0; h < 6; h++) {
            CHECK.due("shown behind " + h, x.timer(0, 7), h < 4 ? h : 0);
            CHECK.due("hours", x.hours(1), h + 1);
        }
    }

    /** "Of not, and, or, < and = comes 1 or 0; what is not 0 is so". */
    private static void whatIsSo() {
        String[] so = {"1", "2", "9999", "(0-1)", "(0-9999)", "(8192*8192*32)"};
        for (String one : so) {
            law("not " + one, 0);
            law(one + " and 1", 1);
            law("1 and " + one, 1);
            law(one + " and 0", 0);
            law("0 and " + one, 0);
            law(one + " or 0", 1);
            law("0 or " + one, 1);
        }
        law("not 0", 1);
        law("not (1-1)", 1);
        law("not (8192*8192*64)", 1);
        law("0 and 0", 0);
        law("0 or 0", 0);
    }

    /** "Of not, and, or, < and = comes 1 or 0": just 1, and just 0, though a THIRST below 0 is 0, too. */
    private static void oneOrNought() {
        for (String so : new String[] {"not 0", "(7 and 8)", "(7 or 0)", "(0 or 8)", "(7 or 8)", "(1<2)", "(2=2)"}) {
            law("5+" + so, 6);
            law("5-" + so, 4);
            law("5*" + so, 5);
        }
        for (String not : new String[] {"not 7", "(0 and 8)", "(7 and 0)", "(0 and 0)", "(0 or 0)", "(2<1)", "(1<1)",
            "(1=2)", "(2=1)"}) {
            law("5+" + not, 5);
            law("5-" + not, 5);
            law("not " + not, 1);
        }
    }

    private static void lessAndSame() {
        law("5<5", 0);
        law("4<5", 1);
        law("5<4", 0);
        law("5=5", 1);
        law("4=5", 0);
        law("5=4", 0);
        law("(0-1)<0", 1);
        law("0<(0-1)", 0);
        law("8192*8192*32<0", 1);
        law("8192*8192*32-1<0", 0);
        law("0-8192*8192*32=8192*8192*32", 1);
    }

    /** "from the left". */
    private static void fromTheLeft() {
        law("9-3-2", 4);
        law("9-3+2", 8);
        law("1 or 1 and 0", 0);
        law("1 or (1 and 0)", 1);
        law("0 and 1 or 1", 1);
        law("0 and (1 or 1)", 0);
    }

    /** "ints wrap". */
    private static void intsWrap() {
        law("8192*8192*32-1", 99);
        law("8192*8192*32", 0);
        law("8192*8192*32-1+1", 0);
        law("0-8192*8192*32", 0);
        law("0-8192*8192*32-1", 99);
        law("8192*8192*64", 0);
        law("8192*8192*64+5", 5);
        law("8192*8192*64-1<0", 1);
        law("4096*4096*256*7+8", 8);
        law("9999*9999*9999", 9999 * 9999 * 9999 > 0 ? 99 : 0);
        law("9999*9999*9999*9999-1", Math.max(0, Math.min(99, 9999 * 9999 * 9999 * 9999 - 1)));
    }

    /** "its THIRST is the E of thirst (0 below it". */
    private static void noLessThanNought() {
        law("1", 1);
        law("0", 0);
        law("0-1", 0);
        law("0-9999", 0);
    }

    /** "99 above". */
    private static void noMoreThan99() {
        law("98", 98);
        law("99", 99);
        law("100", 99);
        law("9999", 99);
    }

    /** "of a milk one one half of it, cut upwards". */
    private static void halfCutUpwards() {
        int[] laws = {0, 1, 2, 3, 4, 97, 98, 99};
        int[] halves = {0, 1, 1, 2, 2, 49, 49, 50};
        for (int i = 0; i < laws.length; i++) {
            CHECK.due("half of " + laws[i], clock("milk", 0, 0, "" + laws[i]).timer(0, 7), halves[i]);
            CHECK.due("all of " + laws[i], clock("plain", 0, 0, "" + laws[i]).timer(0, 7), laws[i]);
        }
        CHECK.due("half of what is below 0", clock("milk", 0, 0, "0-3").timer(0, 7), 0);
    }
}
