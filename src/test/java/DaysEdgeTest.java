/** The edges of promises 4 and 16: what the lines of DAYS may tell, and how they are judged; a sentence each. */
public final class DaysEdgeTest {
    private static final Check CHECK = new Check();
    private static final String POST = "place a well 20;place b well 9;place c well 0;way a b 2;way b c 3;"
            + "clock k plain at a holds 30 has 10 sips 1;clock l plain at b holds 999 has 999 sips 0;"
            + "person e at a sips 0 has 15;person f at b sips 0 has 990;work w by e clock k hour 99 pays 5;";

    private static ThirstHours with(String days) {
        ThirstHours x = CHECK.withPost(POST);
        CHECK.due("days() of " + days, Check.readDays(x, days), 0);
        return x;
    }

    private static void bad(int kind, String text) {
        int at = text.indexOf('^');
        String told = text.substring(0, at) + text.substring(at + 1);
        CHECK.due("days() of " + text, Check.readDays(CHECK.withPost(POST), told), kind + 16 * at);
    }

    /** The first line that can't be. */
    private static void cannot(String days, int due) {
        CHECK.due("the first of " + days + " that can't be", with(days).judged(0), due);
    }

    public static void main(String[] args) {
        noLines();
        hourNumbers();
        pourNumbers();
        drawNumbers();
        stealNumbers();
        namesOfEach();
        fortyLines();
        withoutAPost();
        drawCan();
        pourCan();
        goCan();
        stealCan();
        hourAlwaysCan();
        firstThatCannot();
        leftOut();
        firstBehindWhich();
        paidAtLast();
        fromTheBeginning();
        otherWhats();
        CHECK.end();
    }

    /** "DAYS: any number of", none, too: "lines (NONE: none)". */
    private static void noLines() {
        ThirstHours x = with("");
        CHECK.dueRow("lines, judged", new int[] {x.count(8), x.judged(0), x.judged(1), x.judged(2)}, 0, -1, -1, 0);
        ThirstHours y = CHECK.withPost(POST);
        CHECK.dueRow("never told", new int[] {y.count(8), y.judged(0), y.judged(1), y.judged(2)}, 0, -1, -1, 0);
    }

    /** "1 to 24 hours". */
    private static void hourNumbers() {
        CHECK.due("hour 1", with("hour 1;").count(8), 1);
        CHECK.due("hour 24", with("hour 24;").count(8), 1);
        bad(4, "hour ^0;");
        bad(4, "hour ^25;");
        bad(4, "hour ^9999;");
    }

    /** "a PERSON, a CLOCK, sips 1 to 999". */
    private static void pourNumbers() {
        CHECK.due("pour 1", with("pour e k 1;").judged(0), -1);
        CHECK.due("pour 999", with("pour e k 999;").judged(0), 0);
        bad(4, "pour e k ^0;");
        bad(4, "pour e k ^1000;");
    }

    private static void drawNumbers() {
        CHECK.due("draw 1", with("draw e 1;").judged(0), -1);
        CHECK.due("draw 999", with("draw e 999;").judged(0), 0);
        bad(4, "draw e ^0;");
        bad(4, "draw e ^1000;");
    }

    private static void stealNumbers() {
        CHECK.due("steal 1", with("steal l 1;").judged(0), -1);
        CHECK.due("steal 999", with("steal l 999;").judged(0), -1);
        bad(4, "steal l ^0;");
        bad(4, "steal l ^1000;");
    }

    /** 2: "of no PLACE (.. of go the second), of no PERSON (behind .. pour, draw, go), of no CLOCK (.. steal, of pour the second)". */
    private static void namesOfEach() {
        for (String other : new String[] {"z", "a", "k", "w"}) {
            bad(2, "pour ^" + other + " k 1;");
            bad(2, "draw ^" + other + " 1;");
            bad(2, "go ^" + other + " a;");
        }
        for (String other : new String[] {"z", "a", "e", "w"}) {
            bad(2, "pour e ^" + other + " 1;");
            bad(2, "steal ^" + other + " 1;");
        }
        for (String other : new String[] {"z", "e", "k", "w"}) {
            bad(2, "go e ^" + other + ";");
        }
        for (String none : new String[] {"hour", "place", "and", "7", ";", "#"}) {
            bad(1, "pour ^" + none + " k 1;");
            bad(1, "pour e ^" + none + " 1;");
            bad(1, "draw ^" + none + " 1;");
            bad(1, "go ^" + none + " a;");
            bad(1, "go e ^" + none + ";");
            bad(1, "steal ^" + none + " 1;");
        }
        CHECK.due("the last of all", with("pour f l 1;draw f 1;go f c;steal l 1;").count(8), 4);
    }

    /** "40 lines at most". */
    private static void fortyLines() {
        CHECK.due("39", with("hour 1;".repeat(39)).count(8), 39);
        ThirstHours x = with("hour 1;".repeat(39) + "steal k 999;");
        CHECK.dueRow("40, the last of which can't be", new int[] {x.count(8), x.judged(0)}, 40, 39);
        bad(5, "hour 1;".repeat(40) + "^hour 1;");
        bad(5, "hour 1;".repeat(40) + "^pour");
        fortieth("hour 3;", 5);
        fortieth("draw f 9;", 2);
        fortieth("pour f l 4;", 2);
        fortieth("go f c;", 5);
        fortieth("steal m 99;", 2);
        CHECK.due("blanks behind 40", with("hour 1;".repeat(40) + " \n ").count(8), 40);
    }

    /** What the 40th line tells can be, by other ones than the first PERSON, CLOCK and PLACE, by which it can't. */
    private static void fortieth(String line, int paid) {
        String post = "place a well 0;place b well 99;place c well 0;way b c 3;clock k plain at a holds 9 has 0 sips 0;"
                + "clock l plain at b holds 99 has 20 sips 5;person e at a sips 0 has 0;person f at b sips 0 has 50;"
                + "clock m plain at b holds 99 has 99 sips 0;"
                + "work u by f clock m hour 37 pays 2;work v by f clock m hour 42 pays 3;";
        ThirstHours x = CHECK.withPost(post);
        CHECK.due("39 and " + line, Check.readDays(x, "hour 1;".repeat(39) + line), 0);
        CHECK.dueRow("judged 39 and " + line, new int[] {x.count(8), x.judged(0), x.judged(1), x.judged(2)},
                40, -1, -1, paid);
    }

    /** Without a POST there are no NAMES. */
    private static void withoutAPost() {
        CHECK.due("steal", Check.readDays(new ThirstHours(), "steal k 1;"), 2 + 16 * 6);
        CHECK.due("draw", Check.readDays(new ThirstHours(), "draw e 1;"), 2 + 16 * 5);
        CHECK.due("hour", Check.readDays(new ThirstHours(), "hour 24;"), 0);
    }

    private static void drawCan() {
        cannot("draw e 20;", -1);
        cannot("draw e 21;", 0);
        cannot("draw e 20;draw e 1;", 1);
        cannot("draw f 9;", -1);
        cannot("draw f 10;", 0);
        cannot("go e b;draw e 9;", -1);
        cannot("go e b;draw e 10;", 1);
        cannot("go f a;draw f 9;draw f 1;", 2);
    }

    private static void pourCan() {
        cannot("pour e k 15;", -1);
        cannot("pour e k 16;", 0);
        cannot("draw e 20;pour e k 20;", -1);
        cannot("draw e 20;pour e k 21;", 1);
        cannot("pour e l 1;", 0);
        cannot("steal l 1;go e b;pour e l 1;", -1);
        cannot("steal l 1;go e b;pour e l 2;", 2);
        cannot("pour f k 1;", 0);
    }

    private static void goCan() {
        cannot("go e b;go e c;", -1);
        cannot("go e c;", 0);
        cannot("go e a;", 0);
        cannot("go e b;go e b;", 1);
    }

    private static void stealCan() {
        cannot("steal k 10;", -1);
        cannot("steal k 11;", 0);
        cannot("steal k 10;steal k 1;", 1);
        cannot("hour 3;steal k 7;", -1);
        cannot("hour 3;steal k 8;", 1);
    }

    /** "(hour always can)". */
    private static void hourAlwaysCan() {
        cannot("hour 24;".repeat(40), -1);
        ThirstHours x = new ThirstHours();
        Check.readDays(x, "hour 24;hour 1;");
        CHECK.due("without anything", x.judged(0), -1);
    }

    /** "the first line (from 0) that can't be". */
    private static void firstThatCannot() {
        cannot("steal k 11;steal k 12;", 0);
        cannot("hour 1;steal k 11;steal k 12;hour 1;go e c;", 1);
        cannot("hour 1;".repeat(39) + "go e c;", 39);
    }

    /** "(a line that can't be is left out)": nothing of it is done. */
    private static void leftOut() {
        cannot("draw e 21;draw e 20;steal k 999;steal k 10;pour e k 36;pour e k 30;", 0);
        ThirstHours x = CHECK.withPost("place a well 5;clock k plain at a holds 9 has 2 sips 1;"
                + "person e at a sips 0 has 0;work w by e clock k hour 7 pays 5;work v by e clock k hour 8 pays 50;");
        CHECK.due("days", Check.readDays(x, "draw e 6;pour e k 1;steal k 3;draw e 5;go e a;pour e k 5;hour 24;"), 0);
        CHECK.dueRow("judged", new int[] {x.judged(0), x.judged(1), x.judged(2)}, 0, -1, 5);
    }

    private static String workAt(int hour, String person) {
        return "place a well 9;place b well 9;way a b 2;clock k plain at a holds 99 has 50 sips 1;person e at a " + person
                + ";work w by e clock k hour " + hour + " pays 5;";
    }

    private static void behind(String post, String days, int due, int paid) {
        ThirstHours x = CHECK.withPost(post);
        CHECK.due("days() of " + days, Check.readDays(x, days), 0);
        CHECK.dueRow("judged " + days + " of " + post, new int[] {x.judged(1), x.judged(2)}, due, paid);
    }

    /** "the first one behind which a work was missed or done late". */
    private static void firstBehindWhich() {
        behind(workAt(3, "sips 0 has 0"), "hour 3;hour 1;", -1, 5);
        behind(workAt(3, "sips 1 has 0"), "hour 2;", -1, 0);
        behind(workAt(3, "sips 1 has 0"), "hour 3;", 0, 0);
        behind(workAt(3, "sips 1 has 0"), "hour 2;hour 1;hour 9;", 1, 0);
        behind(workAt(3, "sips 1 has 0"), "hour 1;go e b;hour 9;", 1, 0);
        behind(workAt(3, "sips 1 has 2"), "hour 3;", 0, 0);
        behind(workAt(3, "sips 1 has 3"), "hour 3;", -1, 5);
        behind(workAt(3, "sips 1 has 2"), "hour 2;draw e 1;hour 1;", -1, 5);
        String thirsty = "place a well 9;clock k plain at a holds 9 has 1 sips 1;person e at a sips 0 has 9;"
                + "work w by e clock k hour 2 pays 5;";
        behind(thirsty, "hour 24;hour 24;", -1, 0);
        behind(thirsty, "hour 1;pour e k 1;hour 1;", -1, 5);
        behind(thirsty, "hour 2;pour e k 1;hour 1;hour 1;", 2, 0);
        behind(thirsty, "hour 2;pour e k 1;", -1, 0);
    }

    /** "what all pay at last". */
    private static void paidAtLast() {
        behind(workAt(3, "sips 0 has 0"), "hour 2;", -1, 0);
        behind(workAt(3, "sips 0 has 0"), "hour 3;", -1, 5);
        behind(workAt(3, "sips 0 has 0"), "hour 24;steal k 26;", -1, 5);
        behind(workAt(3, "sips 0 has 0") + "work v by e clock k hour 1 pays 99;work u by e clock k hour 24 pays 1;",
                "hour 24;", -1, 105);
        behind(workAt(3, "sips 0 has 0") + "work v by e clock k hour 1 pays 99;work u by e clock k hour 25 pays 1;",
                "hour 24;", -1, 104);
    }

    /** "the DAYS from the beginning", whatever has come by hand; nothing of now changes by it. */
    private static void fromTheBeginning() {
        ThirstHours x = Check.lived();
        int[] due = {x.judged(0), x.judged(1), x.judged(2)};
        x.hours(24);
        x.steal(1, 99);
        x.go(0, 1);
        CHECK.dueRow("judged later", new int[] {x.judged(0), x.judged(1), x.judged(2)}, due);
        x.mark(1, true);
        CHECK.dueRow("without DAYS", new int[] {x.judged(0), x.judged(1), x.judged(2)}, -1, -1, 0);
        for (int what = 0; what <= 2; what++) {
            int asked = what;
            CHECK.refused("judged(" + what + ")", Check::lived, y -> y.judged(asked), due[what]);
        }
    }

    /** Promise 16: "-2: others". */
    private static void otherWhats() {
        ThirstHours x = Check.lived();
        CHECK.dueRow("judged", new int[] {x.judged(-1), x.judged(3), x.judged(-2), x.judged(Integer.MIN_VALUE),
            x.judged(Integer.MAX_VALUE)}, -2, -2, -2, -2, -2);
        CHECK.dueRow("on a new object", new int[] {new ThirstHours().judged(-1), new ThirstHours().judged(3)}, -2, -2);
    }
}
