/** Promise 24: caravan. */
public final class CaravanTest {
    private static final Check CHECK = new Check();

    private static ThirstHours clock(String kind, String law) {
        return CHECK.withPost("place a well 0;clock k " + kind + " at a holds 5 has 0 sips 2;"
                + "heat 3 to 4 5;heat 23 to 23 9;" + law);
    }

    private static void caravan(ThirstHours x, int legs, int chance, int millionths, int due) {
        CHECK.due("caravan(0, " + legs + ", " + chance + ", " + millionths + ")",
                x.caravan(0, legs, chance, millionths), due);
    }

    public static void main(String[] args) {
        certain();
        chances();
        fine();
        kinds();
        edges();
        CHECK.end();
    }

    private static void certain() {
        ThirstHours x = clock("plain", "");
        caravan(x, 1, 0, 1000000, 2);
        caravan(x, 3, 0, 1, 6);
        caravan(x, 4, 0, 1000000, 13);
        caravan(x, 2, 10, 1000000, 13);
        caravan(x, 2, 10, 1, 13);
        caravan(x, 12, 10, 1000000, 48 + 10 + 9);
        caravan(x, 12, 10, 0, 0);
        caravan(x, 12, 0, 1000000, 24 + 10);
        x.hours(7);
        caravan(x, 3, 0, 1, 6);
        caravan(x, 4, 0, 1000000, 13);
    }

    /** Two legs by 3 of 10: 2 hours 490000, 3 hours 420000, 4 hours 90000. */
    private static void chances() {
        ThirstHours x = clock("plain", "");
        caravan(x, 2, 3, 0, 0);
        caravan(x, 2, 3, 1, 4);
        caravan(x, 2, 3, 490000, 4);
        caravan(x, 2, 3, 490001, 6);
        caravan(x, 2, 3, 910000, 6);
        caravan(x, 2, 3, 910001, 13);
        caravan(x, 2, 3, 1000000, 13);
        caravan(x, 1, 9, 100000, 2);
        caravan(x, 1, 9, 100001, 4);
        ThirstHours y = clock("plain", "thirst shown=2;");
        caravan(y, 2, 3, 490000, 0);
        caravan(y, 2, 3, 490001, 1);
        caravan(y, 2, 3, 1000000, 1);
        ThirstHours z = clock("plain", "thirst 0;");
        caravan(z, 12, 5, 1000000, 0);
    }

    /** Twelve legs by 1 of 10: none by two 0.282429.., at most one 0.659002.., at most seven 0.9999966... */
    private static void fine() {
        ThirstHours x = clock("plain", "thirst 1;");
        caravan(x, 12, 1, 282429, 12);
        caravan(x, 12, 1, 282430, 13);
        caravan(x, 12, 1, 659002, 13);
        caravan(x, 12, 1, 659003, 14);
        caravan(x, 12, 1, 999996, 19);
        caravan(x, 12, 1, 999997, 20);
        caravan(x, 12, 1, 1000000, 24);
        caravan(x, 7, 1, 1000000, 14);
        caravan(x, 6, 1, 999999, 11);
        caravan(x, 6, 1, 1000000, 12);
    }

    private static void kinds() {
        caravan(clock("old", ""), 4, 0, 1, 13);
        caravan(clock("dew", ""), 4, 0, 1, 13);
        caravan(clock("milk", ""), 4, 0, 1, 7);
        caravan(clock("plain", "thirst shown;"), 6, 0, 1, 15);
        caravan(clock("milk", "thirst shown*2;"), 6, 0, 1, 0 + 0 + 1 + 1 + 2 + 2);
        caravan(clock("plain", "thirst shown;"), 3, 10, 1000000, 15);
        caravan(clock("plain", "thirst shown;"), 3, 5, 1000000, 15);
        caravan(clock("plain", "thirst 500;"), 12, 10, 1, 24 * 99);
    }

    private static void edges() {
        ThirstHours x = clock("plain", "");
        for (int c : new int[] {-1, 1, Integer.MIN_VALUE, Integer.MAX_VALUE}) {
            CHECK.due("caravan(" + c + ", 1, 1, 1)", x.caravan(c, 1, 1, 1), -1);
        }
        for (int legs : new int[] {0, -1, 13, Integer.MIN_VALUE, Integer.MAX_VALUE}) {
            caravan(x, legs, 1, 1, -1);
        }
        for (int chance : new int[] {-1, 11, Integer.MIN_VALUE, Integer.MAX_VALUE}) {
            caravan(x, 1, chance, 1, -1);
        }
        for (int millionths : new int[] {-1, 1000001, Integer.MIN_VALUE, Integer.MAX_VALUE}) {
            caravan(x, 1, 1, millionths, -1);
        }
    }
}
