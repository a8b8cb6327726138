/** Promises 21 and 22: say, truth. */
public final class TruthTest {
    private static final Check CHECK = new Check();

    private static ThirstHours made() {
        return CHECK.withPost("place a well 0;clock k plain at a holds 9 has 9 sips 0;clock l milk at a holds 9 has 9 sips 0;");
    }

    private static void truth(ThirstHours x, int... due) {
        CHECK.dueRow("truth", new int[] {x.truth(0), x.truth(1), x.truth(2), x.truth(3)}, due);
    }

    public static void main(String[] args) {
        ThirstHours x = made();
        truth(x, 1099, 0, 1098, 0);
        CHECK.due("say", x.say(0, 10, 3), true);
        truth(x, 7, 7, 13, 0);
        CHECK.due("say", x.say(1, 20, 2), true);
        truth(x, 12, 7, 13, 1);
        CHECK.due("say", x.say(0, 18, 0), true);
        truth(x, 1, 18, 18, 1);
        CHECK.due("say", x.say(0, 22, 4), true);
        truth(x, 1, 18, 18, 1);
        CHECK.due("say", x.say(1, 12, 1), true);
        CHECK.due("say", x.say(1, 12, 1), true);
        truth(x, 4, 11, 13, 3);
        CHECK.due("SAID", x.count(9), 6);
        ends();
        tenAtMost();
        wrongOnes();
        CHECK.end();
    }

    private static void ends() {
        ThirstHours x = made();
        x.say(0, 0, 5);
        truth(x, 6, 0, 5, 0);
        x.say(0, 999, 99);
        truth(x, 205, 0, 5, 1);
        ThirstHours y = made();
        y.say(0, 999, 99);
        truth(y, 199, 900, 1098, 0);
        y.say(0, 999, 0);
        truth(y, 1, 999, 999, 0);
        y.say(0, 0, 0);
        truth(y, 1, 999, 999, 1);
    }

    private static void tenAtMost() {
        ThirstHours x = made();
        for (int i = 0; i < 10; i++) {
            CHECK.due("say", x.say(0, 100 * i, 0), true);
        }
        CHECK.due("an 11th", x.say(0, 1, 0), false);
        CHECK.due("SAID", x.count(9), 10);
        truth(x, 10, 0, 0, 9);
    }

    private static void wrongOnes() {
        ThirstHours x = made();
        for (int c : new int[] {-1, 2, Integer.MIN_VALUE, Integer.MAX_VALUE}) {
            CHECK.due("say(" + c + ", 1, 1)", x.say(c, 1, 1), false);
        }
        for (int shown : new int[] {-1, 1000, Integer.MIN_VALUE, Integer.MAX_VALUE}) {
            CHECK.due("say(0, " + shown + ", 1)", x.say(0, shown, 1), false);
        }
        for (int off : new int[] {-1, 100, Integer.MIN_VALUE, Integer.MAX_VALUE}) {
            CHECK.due("say(0, 1, " + off + ")", x.say(0, 1, off), false);
        }
        CHECK.due("SAID", x.count(9), 0);
        for (int what : new int[] {-1, 4, Integer.MIN_VALUE, Integer.MAX_VALUE}) {
            CHECK.due("truth(" + what + ")", x.truth(what), -1);
        }
    }
}
