/** The E of thirst, by promise 5's THIRST of the next hour. */
public final class ThirstTest {
    private static final Check CHECK = new Check();

    /** Base 5, hot 3, an old CLOCK (kind 1) that shows 2. */
    private static void thirst(String law, int due) {
        ThirstHours x = CHECK.withPost("place a well 0;clock c old at a holds 999 has 999 sips 5;"
                + "heat 0 to 23 3;" + (law.isEmpty() ? "" : "thirst " + law + ";"));
        x.hours(2);
        CHECK.due("shown for " + law, x.timer(0, 5), 2);
        CHECK.due("THIRST by " + law, x.timer(0, 7), due);
    }

    private static void kind(String kind, String law, int due) {
        ThirstHours x = CHECK.withPost("place a well 0;clock c " + kind + " at a holds 999 has 999 sips 5;"
                + "heat 0 to 23 3;thirst " + law + ";");
        CHECK.due("THIRST of a " + kind + " one by " + law, x.timer(0, 7), due);
    }

    public static void main(String[] args) {
        facts();
        order();
        truths();
        bounds();
        kinds();
        CHECK.end();
    }

    private static void facts() {
        thirst("", 8);
        thirst("base", 5);
        thirst("hot", 3);
        thirst("kind", 1);
        thirst("shown", 2);
        thirst("17", 17);
        thirst("0007", 7);
    }

    private static void order() {
        thirst("2+3*4", 14);
        thirst("2*3+4", 10);
        thirst("(2+3)*4", 20);
        thirst("20-5-3", 12);
        thirst("20-5+3", 18);
        thirst("20-(5+3)", 12);
        thirst("2*3*4", 24);
        thirst("base*hot-shown", 13);
        thirst("1+2<4", 1);
        thirst("1+2<3", 0);
        thirst("(1<2)+(3<4)", 2);
        thirst("10+(1 or 0)", 11);
        thirst("not 1+5", 5);
        thirst("not 0*5", 5);
        thirst("not 0 and 0", 0);
        thirst("1 or 1 and 0", 0);
        thirst("0 and 0 or 1", 1);
        thirst("((((9))))", 9);
        thirst("1+(2+(3+(4+5)*1)*2)*2", 1 + 2 * (2 + 2 * (3 + 9)));
        thirst("0 or 0+0*(0 or 0+0*(0 or 0+0*(0 or 9-2*4)))", 0);
        thirst("0 or 0<1*(0 or 0<1*(0 or 0<1*(0 or 0<9-2*4)))", 1);
    }

    private static void truths() {
        thirst("not 0", 1);
        thirst("not 7", 0);
        thirst("not not 7", 1);
        thirst("5 and 7", 1);
        thirst("5 and 0", 0);
        thirst("0 and 5", 0);
        thirst("0 or 7", 1);
        thirst("7 or 0", 1);
        thirst("0 or 0", 0);
        thirst("0-3 and 1", 1);
        thirst("3<3", 0);
        thirst("2<3", 1);
        thirst("3<2", 0);
        thirst("3=3", 1);
        thirst("3=2", 0);
        thirst("(0-1)<0", 1);
    }

    private static void bounds() {
        thirst("0-1", 0);
        thirst("99", 99);
        thirst("100", 99);
        thirst("9999", 99);
        thirst("9999*9999*9999", 9999 * 9999 * 9999 < 0 ? 0 : 99);
        thirst("9999*9999*22", 9999 * 9999 * 22 < 0 ? 0 : 99);
        thirst("9999*9999*43", 9999 * 9999 * 43 < 0 ? 0 : 99);
        thirst("0-9999*9999*22", 0 - 9999 * 9999 * 22 < 0 ? 0 : 99);
    }

    private static void kinds() {
        kind("plain", "kind", 0);
        kind("old", "kind", 1);
        kind("milk", "kind*10", 10);
        kind("dew", "kind", 3);
        kind("plain", "base+hot", 8);
        kind("milk", "base+hot", 4);
        kind("milk", "base+2", 4);
        kind("milk", "1", 1);
        kind("milk", "0", 0);
        kind("milk", "0-5", 0);
        kind("milk", "99", 50);
        kind("milk", "150", 50);
    }
}
