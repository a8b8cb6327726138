/** Promise 20: siege. */
public final class SiegeTest {
    private static final Check CHECK = new Check();

    private static void siege(ThirstHours x, int water, int most, int clocks, int people) {
        CHECK.dueRow("siege(" + water + ")", new int[] {x.siege(water, 0), x.siege(water, 1), x.siege(water, 2)},
                most, clocks, people);
    }

    public static void main(String[] args) {
        costs();
        sharedOnes();
        equalOnes();
        neverMilk();
        shownAndHeat();
        free();
        edges();
        CHECK.end();
    }

    /** u costs 3 * 1 + 3 * 2 = 9, v costs 2 * 2 + 2 * 1 = 6. */
    private static void costs() {
        ThirstHours x = CHECK.withPost("place a well 0;clock k plain at a holds 9 has 9 sips 1;"
                + "clock l dew at a holds 9 has 0 sips 2;person e at a sips 2 has 0;person f at a sips 1 has 99;"
                + "work u by e clock k hour 3 pays 9;work v by f clock l hour 2 pays 8;");
        siege(x, 5, 0, 0, 0);
        siege(x, 6, 8, 2, 2);
        siege(x, 8, 8, 2, 2);
        siege(x, 9, 9, 1, 1);
        siege(x, 14, 9, 1, 1);
        siege(x, 15, 17, 3, 3);
        siege(x, 9999, 17, 3, 3);
        x.hours(24);
        siege(x, 15, 17, 3, 3);
    }

    /** Both works of a CLOCK and a PERSON go by one CLOCK's and one PERSON's water. */
    private static void sharedOnes() {
        ThirstHours x = CHECK.withPost("place a well 0;clock k old at a holds 9 has 9 sips 3;"
                + "clock l plain at a holds 9 has 9 sips 1;person e at a sips 1 has 0;person f at a sips 0 has 0;"
                + "work s by e clock k hour 2 pays 3;work t by f clock k hour 4 pays 4;"
                + "work u by e clock l hour 5 pays 5;work v by f clock l hour 1 pays 1;");
        siege(x, 0, 0, 0, 0);
        siege(x, 1, 1, 2, 2);
        siege(x, 8, 3, 1, 1);
        siege(x, 10, 6, 2, 3);
        siege(x, 11, 6, 2, 3);
        siege(x, 12, 6, 2, 3);
        siege(x, 13, 6, 2, 3);
        siege(x, 14, 7, 1, 3);
        siege(x, 15, 7, 1, 3);
        siege(x, 16, 8, 3, 1);
        siege(x, 21, 8, 3, 1);
        siege(x, 22, 13, 3, 3);
    }

    private static void equalOnes() {
        ThirstHours x = CHECK.withPost("place a well 0;clock k plain at a holds 9 has 9 sips 1;"
                + "clock l plain at a holds 9 has 9 sips 1;clock m plain at a holds 9 has 9 sips 1;"
                + "person e at a sips 0 has 0;person f at a sips 0 has 0;"
                + "work s by f clock m hour 1 pays 5;work t by f clock l hour 1 pays 5;work u by e clock l hour 1 pays 5;"
                + "work v by e clock k hour 1 pays 0;");
        siege(x, 1, 10, 2, 3);
        siege(x, 2, 15, 6, 3);
        ThirstHours y = CHECK.withPost("place a well 0;clock k plain at a holds 9 has 9 sips 1;"
                + "clock l plain at a holds 9 has 9 sips 1;person e at a sips 1 has 0;person f at a sips 1 has 0;"
                + "work s by f clock l hour 1 pays 5;work t by e clock l hour 1 pays 5;work u by f clock k hour 1 pays 5;");
        siege(y, 2, 5, 1, 2);
        siege(y, 3, 10, 2, 3);
        siege(y, 4, 15, 3, 3);
        ThirstHours z = CHECK.withPost("place a well 0;clock k plain at a holds 9 has 9 sips 1;"
                + "person e at a sips 1 has 0;person f at a sips 1 has 0;"
                + "work s by f clock k hour 1 pays 5;work t by e clock k hour 1 pays 5;");
        siege(z, 2, 5, 1, 1);
    }

    private static void neverMilk() {
        ThirstHours x = CHECK.withPost("place a well 0;clock k milk at a holds 9 has 9 sips 0;"
                + "clock l dew at a holds 9 has 9 sips 0;person e at a sips 0 has 0;"
                + "work s by e clock k hour 1 pays 5;work t by e clock l hour 99 pays 7;");
        siege(x, 9999, 7, 2, 1);
    }

    /** THIRST as if it showed each hour: 0 + 1 + .. and heat from hour 0 on. */
    private static void shownAndHeat() {
        ThirstHours x = CHECK.withPost("place a well 0;clock k plain at a holds 9 has 9 sips 0;"
                + "person e at a sips 0 has 0;work s by e clock k hour 5 pays 5;heat 2 to 2 4;thirst shown+hot;");
        siege(x, 13, 0, 0, 0);
        siege(x, 14, 5, 1, 1);
        ThirstHours y = CHECK.withPost("place a well 0;clock k plain at a holds 9 has 9 sips 9;"
                + "person e at a sips 9 has 0;work s by e clock k hour 99 pays 99;thirst 101;");
        siege(y, 9999, 0, 0, 0);
        ThirstHours z = CHECK.withPost("place a well 0;clock k plain at a holds 9 has 9 sips 9;"
                + "person e at a sips 1 has 0;work s by e clock k hour 99 pays 99;thirst 101;");
        siege(z, 9899, 0, 0, 0);
        siege(z, 9900, 99, 1, 1);
    }

    private static void free() {
        ThirstHours x = CHECK.withPost("place a well 0;clock k plain at a holds 9 has 9 sips 0;"
                + "person e at a sips 0 has 0;work s by e clock k hour 3 pays 4;");
        siege(x, 0, 4, 1, 1);
        ThirstHours all = CHECK.withPost("place a well 0;clock k plain at a holds 9 has 9 sips 0;"
                + "clock l old at a holds 9 has 9 sips 0;clock m dew at a holds 9 has 9 sips 0;"
                + "clock n plain at a holds 9 has 9 sips 0;clock o plain at a holds 9 has 9 sips 0;"
                + "clock p plain at a holds 9 has 9 sips 0;person e at a sips 0 has 0;person f at a sips 0 has 0;"
                + "person g at a sips 0 has 0;person h at a sips 1 has 0;work q by h clock p hour 1 pays 64;"
                + "work r by e clock k hour 1 pays 1;work s by f clock l hour 1 pays 2;work t by g clock m hour 1 pays 4;"
                + "work u by g clock n hour 1 pays 8;work v by g clock o hour 1 pays 16;");
        siege(all, 0, 31, 31, 7);
        siege(all, 1, 95, 63, 15);
    }

    private static void edges() {
        ThirstHours x = new ThirstHours();
        siege(x, 0, 0, 0, 0);
        siege(x, 9999, 0, 0, 0);
        for (int water : new int[] {-1, 10000, Integer.MIN_VALUE, Integer.MAX_VALUE}) {
            siege(x, water, -1, -1, -1);
        }
        for (int what : new int[] {-1, 3, Integer.MIN_VALUE, Integer.MAX_VALUE}) {
            CHECK.due("siege(1, " + what + ")", x.siege(1, what), -1);
        }
    }
}
