/** Promises 25 and 26: tell, laws. */
public final class LawsTest {
    private static final Check CHECK = new Check();

    private static void laws(ThirstHours x, int... due) {
        CHECK.dueRow("laws", new int[] {x.laws(0), x.laws(1), x.laws(2)}, due);
    }

    private static ThirstHours told(int... heatsAndDrunk) {
        ThirstHours x = new ThirstHours();
        for (int i = 0; i < heatsAndDrunk.length; i += 2) {
            CHECK.due("tell", x.tell(heatsAndDrunk[i], heatsAndDrunk[i + 1]), true);
        }
        return x;
    }

    public static void main(String[] args) {
        laws(told(), 100, 0, 5);
        laws(told(0, 4), 10, 40, 1);
        laws(told(0, 0), 10, 0, 1);
        laws(told(0, 10), 0, -1, -1);
        laws(told(1, 9), 10, 9, 0);
        laws(told(1, 18), 1, 99, -1);
        laws(told(2, 5), 3, 12, 0);
        laws(told(5, 45), 2, 9, 0);
        laws(told(9, 90), 1, 99, -1);
        laws(told(9, 91), 0, -1, -1);
        laws(told(9, 99), 0, -1, -1);
        laws(told(3, 10, 3, 10), 3, 13, 0);
        laws(told(3, 10, 3, 11), 0, -1, -1);
        laws(told(3, 10, 4, 13), 1, 13, -1);
        laws(told(3, 10, 4, 12), 1, 42, -1);
        tellsAsFewest();
        twelveAtMost();
        wrongOnes();
        CHECK.end();
    }

    /** Each heat that is TOLD of leaves just the laws that say so; TELLS looks at the worst of these. */
    private static void tellsAsFewest() {
        for (int heat = 0; heat <= 9; heat++) {
            for (int drunk = 0; drunk <= 90; drunk++) {
                ThirstHours x = told(heat, drunk);
                int many = x.laws(0);
                int best = -1;
                int least = many;
                for (int other = 0; other <= 9; other++) {
                    int worst = 0;
                    for (int says = 0; says <= 90; says++) {
                        worst = Math.max(worst, told(heat, drunk, other, says).laws(0));
                    }
                    if (worst < least) {
                        least = worst;
                        best = other;
                    }
                }
                CHECK.due("the heat that TELLS behind " + heat + ", " + drunk, x.laws(2), best);
            }
        }
    }

    private static void twelveAtMost() {
        ThirstHours x = new ThirstHours();
        for (int i = 0; i < 12; i++) {
            CHECK.due("TOLD", x.count(10), i);
            CHECK.due("tell", x.tell(i % 10, 3 + 2 * (i % 10)), true);
        }
        CHECK.due("a 13th", x.tell(0, 3), false);
        CHECK.due("TOLD", x.count(10), 12);
        laws(x, 1, 32, -1);
    }

    private static void wrongOnes() {
        ThirstHours x = new ThirstHours();
        for (int heat : new int[] {-1, 10, Integer.MIN_VALUE, Integer.MAX_VALUE}) {
            CHECK.due("tell(" + heat + ", 1)", x.tell(heat, 1), false);
        }
        for (int drunk : new int[] {-1, 100, Integer.MIN_VALUE, Integer.MAX_VALUE}) {
            CHECK.due("tell(1, " + drunk + ")", x.tell(1, drunk), false);
        }
        for (int what : new int[] {-1, 3, Integer.MIN_VALUE, Integer.MAX_VALUE}) {
            CHECK.due("laws(" + what + ")", x.laws(what), -1);
        }
        CHECK.due("TOLD", x.count(10), 0);
    }
}
