/** The edges of promises 3 and 4: which token is the FAULT, and what stays; a sentence each. */
public final class FaultEdgeTest {
    private static final Check CHECK = new Check();
    private static final String HERE = "place a well 9;place b well 9;way a b 2;clock c old at a holds 9 has 1 sips 1;"
            + "person e at a sips 1 has 1;work w by e clock c hour 1 pays 1;heat 0 to 3 1;thirst (base+1)*not hot<5;";
    private static final String DAYS = "hour 3;pour e c 1;draw e 2;go e b;steal c 1;";

    /** The FAULT is at the sign ^, which is taken out of the text. */
    private static void bad(int kind, String more) {
        String text = HERE + more;
        int at = text.indexOf('^');
        String told = text.substring(0, at) + text.substring(at + 1);
        CHECK.due("post() of " + text, Check.readPost(new ThirstHours(), told), kind + 16 * at);
    }

    private static void badDays(int kind, String text) {
        int at = text.indexOf('^');
        String told = text.substring(0, at) + text.substring(at + 1);
        CHECK.due("days() of " + text, Check.readDays(CHECK.withPost(HERE), told), kind + 16 * at);
    }

    public static void main(String[] args) {
        withoutFault();
        endOfPost();
        endOfDays();
        endBehindBlanks();
        placeFromNought();
        firstFromTheLeft();
        kindOneIsLeast();
        kindTwoIsLessThanThree();
        fiveAheadOfTheRest();
        oneTooMany();
        notWithinFive();
        eachPlaceOfPost();
        eachPlaceOfDays();
        eachOfPostMissing();
        eachOfDaysMissing();
        eachTwice();
        postStaysByFault();
        daysStayByFault();
        postBeginsAnew();
        daysAreTheDays();
        CHECK.end();
    }

    /** 0 without a FAULT. */
    private static void withoutFault() {
        CHECK.due("post", Check.readPost(new ThirstHours(), HERE), 0);
        CHECK.due("days", Check.readDays(CHECK.withPost(HERE), DAYS), 0);
    }

    private static String[] tokens(String text) {
        return text.replaceAll("([a-z]+|[0-9]+|[^a-z0-9 ])", " $1 ").trim().split(" +");
    }

    /** "the end being one at the text's length": a POST that ends behind any of its tokens but a last ; of a line. */
    private static void endOfPost() {
        StringBuilder text = new StringBuilder();
        for (String token : tokens(HERE)) {
            text.append(token);
            int due = token.equals(";") ? 0 : 1 + 16 * text.length();
            CHECK.due("post() of " + text, Check.readPost(new ThirstHours(), text.toString()), due);
            text.append(' ');
        }
    }

    private static void endOfDays() {
        StringBuilder text = new StringBuilder();
        for (String token : tokens(DAYS)) {
            text.append(token);
            int due = token.equals(";") ? 0 : 1 + 16 * text.length();
            CHECK.due("days() of " + text, Check.readDays(CHECK.withPost(HERE), text.toString()), due);
            text.append(' ');
        }
    }

    /** Blanks behind the last token are of the text, too. */
    private static void endBehindBlanks() {
        CHECK.due("a blank", Check.readPost(new ThirstHours(), "place a "), 1 + 16 * 8);
        CHECK.due("blanks", Check.readPost(new ThirstHours(), "place a \n\n  "), 1 + 16 * 12);
        CHECK.due("blanks to 999", Check.readPost(new ThirstHours(), "place" + " ".repeat(994)), 1 + 16 * 999);
        CHECK.due("blanks to 1000", Check.readPost(new ThirstHours(), "place" + " ".repeat(995)), 1 + 16 * 1000);
        CHECK.due("blanks beyond", Check.readPost(new ThirstHours(), "place" + " ".repeat(1200)), 1 + 16 * 1000);
        CHECK.due("in DAYS", Check.readDays(new ThirstHours(), "hour" + " ".repeat(1200)), 1 + 16 * 1000);
    }

    /** "16 * the place (from 0)", of a token's first sign. */
    private static void placeFromNought() {
        CHECK.due("at 0", Check.readPost(new ThirstHours(), "wells"), 1);
        CHECK.due("at 1", Check.readPost(new ThirstHours(), " wells"), 1 + 16);
        CHECK.due("at 999", Check.readPost(new ThirstHours(), " ".repeat(999) + "w"), 1 + 16 * 999);
        CHECK.due("DAYS at 0", Check.readDays(new ThirstHours(), "hours"), 1);
        CHECK.due("DAYS at 999", Check.readDays(new ThirstHours(), " ".repeat(999) + ";"), 1 + 16 * 999);
    }

    /** "of the first token from the left that is wrong", whatever kind the later ones are. */
    private static void firstFromTheLeft() {
        bad(4, "heat ^24 to 99 99 place");
        bad(2, "way ^z z 0");
        bad(3, "way a ^a 0");
        bad(3, "way a ^b 0");
        bad(4, "heat 5 to ^4 99 #");
        bad(3, "place ^a well #");
        bad(2, "clock z old at ^y holds 0 has 9999 sips 99");
        bad(4, "clock z old at a holds ^0 has 9999 sips 99");
        bad(4, "clock z old at a holds 5 has ^6 sips 99");
        bad(4, "clock z old at a holds 5 has 5 sips ^99 place");
        bad(1, "^# place a well 1;");
        badDays(2, "draw ^z 0 #");
        badDays(4, "draw e ^0 #");
        badDays(4, "hour ^25;hour");
        badDays(2, "pour ^y z 0");
        badDays(2, "pour e ^z 0");
        badDays(1, "hour 1 ^hour 99;");
    }

    /** A token that can't stand there is that alone, though it is no NAME told, too many or a NUMBER too large. */
    private static void kindOneIsLeast() {
        bad(1, "way ^well b 1;");
        bad(1, "way a ^place 1;");
        bad(1, "way ^7 b 1;");
        bad(1, "clock z old at ^to holds 1 has 1 sips 1;");
        bad(1, "work z by ^by clock c hour 1 pays 1;");
        bad(1, "work z by e clock ^clock hour 1 pays 1;");
        bad(1, "place z well ^99999;");
        bad(1, "heat ^99999 to 3 1;");
        bad(1, "place ^placeplace well 1;");
        badDays(1, "draw ^draw 1;");
        badDays(1, "go e ^go;");
        badDays(1, "steal ^steal 1;");
        badDays(1, "hour ^00025;");
        badDays(1, "hour 1;".repeat(40) + "^hours 1;");
        badDays(1, "hour 1;".repeat(40) + "^#");
    }

    /** The second NAME of a way that is of no PLACE is no pair told. */
    private static void kindTwoIsLessThanThree() {
        bad(2, "way a ^z 1;");
        bad(2, "way b ^c 1;");
        bad(3, "way b ^a 1;");
    }

    /** One too many is so at its first word, whatever is behind it. */
    private static void fiveAheadOfTheRest() {
        bad(5, "place m well 1;place n well 1;place o well 1;^place # ");
        bad(5, "place m well 1;place n well 1;place o well 1;^place a well 99999;");
        badDays(5, "hour 1;".repeat(40) + "^hour 99;");
        badDays(5, "hour 1;".repeat(40) + "^go nobody;");
    }

    /** "the first word of a 41st line of DAYS": 40 are none too many. */
    private static void oneTooMany() {
        String[] lines = {"hour 1;", "pour e c 1;", "draw e 1;", "go e a;", "steal c 1;"};
        for (String line : lines) {
            ThirstHours x = CHECK.withPost(HERE);
            CHECK.due("forty of " + line, Check.readDays(x, line.repeat(40)), 0);
            CHECK.due("lines", x.count(8), 40);
            badDays(5, line.repeat(40) + "^" + line);
            badDays(5, "hour 1;".repeat(40) + "^" + line);
        }
    }

    /** "not, or a PART, within 5 others": PARTS of each sort, behind each of the signs. */
    private static void notWithinFive() {
        String head = "place a well 1;thirst ";
        for (String part : new String[] {"1", "base", "hot", "kind", "shown", "not 1", "(1)"}) {
            for (String ahead : new String[] {"", "1+", "1-", "1*", "1<", "1=", "1 and ", "1 or "}) {
                boolean simple = !part.startsWith("not") && !part.startsWith("(");
                String four = head + "((((" + ahead + part + "))));";
                int deeper = (head + "((((" + ahead).length() + (part.startsWith("not") ? 4 : 1);
                if (simple) {
                    CHECK.due("post() of " + four, Check.readPost(new ThirstHours(), four), 0);
                } else {
                    CHECK.due("post() of " + four, Check.readPost(new ThirstHours(), four), 5 + 16 * deeper);
                }
                String five = head + "(((((" + ahead + part + ")))));";
                int at = (head + "(((((").length();
                CHECK.due("post() of " + five, Check.readPost(new ThirstHours(), five), 5 + 16 * at);
            }
        }
    }

    /** Each token of a POST, when another that is none stands there, is the FAULT. */
    private static void eachPlaceOfPost() {
        String[] tokens = tokens(HERE);
        for (int i = 0; i < tokens.length; i++) {
            StringBuilder text = new StringBuilder();
            int at = 0;
            for (int k = 0; k < tokens.length; k++) {
                at = k == i ? text.length() : at;
                text.append(k == i ? "#" : tokens[k]).append(' ');
            }
            CHECK.due("post() of " + text, Check.readPost(new ThirstHours(), text.toString()), 1 + 16 * at);
        }
    }

    private static void eachPlaceOfDays() {
        String[] tokens = tokens(DAYS);
        for (int i = 0; i < tokens.length; i++) {
            StringBuilder text = new StringBuilder();
            int at = 0;
            for (int k = 0; k < tokens.length; k++) {
                at = k == i ? text.length() : at;
                text.append(k == i ? "#" : tokens[k]).append(' ');
            }
            CHECK.due("days() of " + text, Check.readDays(CHECK.withPost(HERE), text.toString()), 1 + 16 * at);
        }
    }

    private static String without(String[] tokens, int dropped) {
        StringBuilder text = new StringBuilder();
        for (int i = 0; i < tokens.length; i++) {
            text.append(i == dropped ? "" : tokens[i] + " ");
        }
        return text.toString();
    }

    private static int lengthAhead(String[] tokens, int many) {
        int length = 0;
        for (int i = 0; i < many; i++) {
            length += tokens[i].length() + 1;
        }
        return length;
    }

    /**
     * Each token left out: what is behind it, or the end, can't stand there; where two of a sort follow each
     * other, what is behind the second.
     */
    private static void eachOfPostMissing() {
        String[] tokens = tokens(HERE.substring(0, HERE.indexOf("thirst")));
        for (int i = 0; i < tokens.length; i++) {
            boolean ofTwo = i > 0 && tokens[i - 1].equals("way") || tokens[i].equals("3");
            String text = without(tokens, i);
            int at = lengthAhead(tokens, i) + (ofTwo ? 2 : 0);
            CHECK.due("post() of " + text, Check.readPost(new ThirstHours(), text), 1 + 16 * at);
        }
        bad(1, "clock z ^at b holds 1 has 1 sips 1;");
        for (String kind : new String[] {"plain", "old", "milk", "dew"}) {
            bad(1, "clock z " + kind + " at b holds 1 has 1 sips 1;clock y ^at b holds 1 has 1 sips 1;");
        }
        bad(1, "way a ^1;");
        bad(1, "way ^1;");
        bad(1, "place z well 9;way a z^;");
        bad(1, "place z well 9^place y well 9;");
        bad(1, "^;");
        bad(1, "place z well 9;^;");
    }

    /** What is behind the missing one is a NAME of none there, if it is one. */
    private static void eachOfDaysMissing() {
        String[] tokens = tokens(DAYS);
        for (int i = 0; i < tokens.length; i++) {
            int kind = i > 0 && (tokens[i - 1].equals("pour") || tokens[i - 1].equals("go")) ? 2 : 1;
            String text = without(tokens, i);
            CHECK.due("days() of " + text, Check.readDays(CHECK.withPost(HERE), text), kind + 16 * lengthAhead(tokens, i));
        }
        badDays(1, "^;");
        badDays(1, "hour 1;^;");
        badDays(1, "hour 1^hour 1;");
    }

    private static String twice(String[] tokens, int doubled) {
        StringBuilder text = new StringBuilder();
        for (int i = 0; i < tokens.length; i++) {
            text.append(tokens[i]).append(' ').append(i == doubled ? tokens[i] + " " : "");
        }
        return text.toString();
    }

    /** Each token twice: the second one can't stand there, or is a NAME that is wrong there. */
    private static void eachTwice() {
        String[] tokens = tokens(HERE.substring(0, HERE.indexOf("heat")));
        for (int i = 0; i < tokens.length; i++) {
            String text = twice(tokens, i);
            int kind = i > 0 && tokens[i - 1].equals("way") ? 3 : 1;
            CHECK.due("post() of " + text, Check.readPost(new ThirstHours(), text), kind + 16 * lengthAhead(tokens, i + 1));
        }
        String[] days = tokens(DAYS);
        for (int i = 0; i < days.length; i++) {
            String text = twice(days, i);
            int kind = i > 0 && (days[i - 1].equals("pour") || days[i - 1].equals("go")) ? 2 : 1;
            CHECK.due("days() of " + text, Check.readDays(CHECK.withPost(HERE), text), kind + 16 * lengthAhead(days, i + 1));
        }
        bad(1, "heat ^heat");
        bad(1, "heat 0 ^0");
        bad(1, "heat 0 to ^to");
        bad(1, "heat 0 to 3 3 ^1;");
        bad(1, "heat 0 to 3 1;^;");
    }

    /** An object that has lived, with this on its TAPE. */
    private static ThirstHours livedWith(String text) {
        ThirstHours x = Check.lived();
        x.post();
        Check.feed(x, text);
        return x;
    }

    /** Promise 3: "or its FAULT (all stays then)", at its first line or at its last. */
    private static void postStaysByFault() {
        String good = "place q well 1;place r well 2;way q r 3;clock s milk at q holds 7 has 7 sips 7;"
                + "person t at q sips 7 has 7;work u by t clock s hour 7 pays 7;heat 0 to 23 7;thirst 7;";
        String[] wrong = {"#", "way q z 1;", "place q well 1;", "heat 0 to 23 10;", "place"};
        int[] kinds = {1, 2, 3, 4, 1};
        for (int i = 0; i < wrong.length; i++) {
            String text = good + wrong[i];
            ThirstHours x = livedWith(text);
            CHECK.due("kind of the FAULT of " + text, x.post() % 16, kinds[i]);
            CHECK.same("behind the FAULT of " + text, x, livedWith(""));
        }
        String many = good + "place m well 1;place n well 1;place o well 1;place p well 1;";
        ThirstHours x = livedWith(many);
        CHECK.due("five and one too many", x.post() % 16, 5);
        CHECK.same("behind one too many", x, livedWith(""));
        ThirstHours y = livedWith("well");
        CHECK.due("at the first token", y.post(), 1);
        CHECK.same("behind it", y, livedWith(""));
    }

    /** Promise 4: "likewise". */
    private static void daysStayByFault() {
        String good = "hour 1;steal k 9;draw g 9;go f c;";
        String[] wrong = {"#", "draw z 1;", "hour 0;", "hour 1", "hour 1;".repeat(37)};
        int[] kinds = {1, 2, 4, 1, 5};
        for (int i = 0; i < wrong.length; i++) {
            String text = good + wrong[i];
            ThirstHours x = livedWith(text);
            CHECK.due("kind of the FAULT of " + text, x.days() % 16, kinds[i]);
            CHECK.same("behind the FAULT of " + text, x, livedWith(""));
        }
    }

    /** "Without a FAULT a POST is the POST from then on": as on a new object. */
    private static void postBeginsAnew() {
        String[] posts = {"", HERE, "place a well 1;", "place q well 1;clock s milk at q holds 7 has 7 sips 7;"
                + "person t at q sips 7 has 7;work u by t clock s hour 1 pays 7;"};
        for (String post : posts) {
            ThirstHours x = livedWith(post);
            CHECK.due("post() of " + post, x.post(), 0);
            CHECK.same("behind post() of " + post, x, CHECK.withPost(post));
        }
        ThirstHours x = livedWith(HERE);
        x.post();
        CHECK.dueRow("hour, lines, SAID, TOLD, undone, TAPE", new int[] {x.count(5), x.count(8), x.count(9), x.count(10),
            x.count(11), x.count(12)}, 0, 0, 0, 0, 0, 0);
        for (int mark = 0; mark < 4; mark++) {
            CHECK.due("MARK " + mark, x.mark(mark, true), false);
        }
    }

    /** "DAYS are the DAYS": nothing but them changes. */
    private static void daysAreTheDays() {
        ThirstHours x = livedWith("steal k 999;hour 9;");
        CHECK.due("days", x.days(), 0);
        CHECK.dueRow("the new ones", new int[] {x.count(8), x.judged(0)}, 2, 0);
        Check.feed(x, "hour 5;pour g m 9;pour e k 9;steal n 3;hour 20;");
        CHECK.due("the old ones again", x.days(), 0);
        CHECK.same("behind DAYS", x, livedWith(""));
        ThirstHours y = new ThirstHours();
        CHECK.due("DAYS without a POST", Check.readDays(y, "hour 24;hour 1;"), 0);
        CHECK.dueRow("the DAYS", new int[] {y.count(8), y.judged(0), y.judged(1), y.judged(2)}, 2, -1, -1, 0);
    }
}
