/** The edges of promises 17 to 19, 24, 27 and 30: what comes when hours pass; a sentence each. */
public final class AheadEdgeTest {
    private static final Check CHECK = new Check();
    private static final int[] FAR = {Integer.MIN_VALUE, Integer.MAX_VALUE, 1 << 16, -(1 << 16)};

    private static ThirstHours clock(String told) {
        return CHECK.withPost("place a well 0;clock k " + told + ";");
    }

    public static void main(String[] args) {
        showsHours();
        showsWho();
        stopsInThisHour();
        stopsWithin240();
        stopsFirstTime();
        stopsOfMilk();
        stopsWho();
        lateHours();
        lateWhats();
        lateWithin();
        lateNotDoneYet();
        lateIsNotUndone();
        lateFirstByHours();
        caravanLegs();
        caravanChance();
        caravanMillionths();
        caravanExactly();
        caravanWho();
        theftHours();
        theftSips();
        theftLastHour();
        theftFromHourNought();
        theftNone();
        theftWho();
        yearsSeeds();
        yearsHours();
        yearsWhats();
        yearsDraws();
        yearsThief();
        yearsRain();
        yearsFromNow();
        askingChangesNothing();
        CHECK.end();
    }

    /** Promise 17: "behind so many hours (0 to 240)". */
    private static void showsHours() {
        ThirstHours x = clock("plain at a holds 999 has 999 sips 1");
        CHECK.dueRow("shows", new int[] {x.shows(0, 0), x.shows(0, 1), x.shows(0, 239), x.shows(0, 240)}, 0, 1, 239, 240);
        CHECK.dueRow("others", new int[] {x.shows(0, -1), x.shows(0, 241)}, -1, -1);
        x.hours(24);
        CHECK.dueRow("a day on", new int[] {x.shows(0, 0), x.shows(0, 240), x.shows(0, 241)}, 24, 264, -1);
        for (int far : FAR) {
            CHECK.due("shows(0, " + far + ")", x.shows(0, far), -1);
        }
    }

    private static void showsWho() {
        ThirstHours x = Check.lived();
        CHECK.dueRow("others", new int[] {x.shows(-1, 0), x.shows(4, 0), x.shows(-1, -1), x.shows(4, 241)}, -1, -1, -1, -1);
        CHECK.due("the last", x.shows(3, 0), x.timer(3, 5));
        for (int far : FAR) {
            CHECK.due("shows(" + far + ", 1)", x.shows(far, 1), -1);
        }
        CHECK.due("without a POST", new ThirstHours().shows(0, 0), -1);
    }

    /** Promise 18: "(0: in this one)". */
    private static void stopsInThisHour() {
        CHECK.due("has one less", clock("plain at a holds 9 has 4 sips 5").stops(0), 0);
        CHECK.due("has just so much", clock("plain at a holds 9 has 5 sips 5").stops(0), 1);
        ThirstHours x = clock("plain at a holds 9 has 5 sips 5");
        x.hours(1);
        CHECK.due("an hour on", x.stops(0), 0);
        x.hours(1);
        CHECK.due("it stands still already", x.stops(0), 0);
    }

    /** "(0 to 240)"; "NONE: .. not within 240". */
    private static void stopsWithin240() {
        CHECK.due("240", clock("plain at a holds 999 has 240 sips 1").stops(0), 240);
        CHECK.due("239", clock("plain at a holds 999 has 239 sips 1").stops(0), 239);
        ThirstHours x = clock("plain at a holds 999 has 241 sips 1");
        CHECK.due("241", x.stops(0), -1);
        x.hours(1);
        CHECK.due("241, an hour on", x.stops(0), 240);
        CHECK.due("never", clock("plain at a holds 9 has 0 sips 0").stops(0), -1);
    }

    /** "it stands still for the first time", though it goes on then. */
    private static void stopsFirstTime() {
        CHECK.due("it goes on", clock("plain at a holds 9 has 9 sips 0;heat 4 to 4 9;heat 9 to 9 9;thirst hot*2").stops(0), 4);
        CHECK.due("at an hour later", clock("plain at a holds 9 has 9 sips 0;heat 4 to 4 9;heat 9 to 9 9;thirst hot").stops(0), 9);
        CHECK.due("on the next day", clock("plain at a holds 99 has 18 sips 0;heat 4 to 4 9").stops(0), 52);
    }

    /** "a milk one, too": in an even hour as in an odd one. */
    private static void stopsOfMilk() {
        for (int has = 0; has <= 6; has++) {
            CHECK.due("a milk one that has " + has, clock("milk at a holds 9 has " + has + " sips 2").stops(0), has);
        }
    }

    private static void stopsWho() {
        ThirstHours x = Check.lived();
        CHECK.dueRow("others", new int[] {x.stops(-1), x.stops(4)}, -1, -1);
        for (int far : FAR) {
            CHECK.due("stops(" + far + ")", x.stops(far), -1);
        }
        CHECK.due("without a POST", new ThirstHours().stops(0), -1);
    }

    private static ThirstHours work(String clock, String person, int hour) {
        return CHECK.withPost("place a well 99;clock k " + clock + ";person e at a " + person + ";work w by e clock k hour "
                + hour + " pays 1;");
    }

    /** Promise 19: "within so many hours (1 to 240)"; "-2: others". */
    private static void lateHours() {
        ThirstHours x = work("dew at a holds 999 has 0 sips 2", "sips 0 has 0", 1);
        CHECK.dueRow("late", new int[] {x.late(1, -1), x.late(240, -1), x.late(1, 0), x.late(240, 0)}, 0, 1, -1, 0);
        CHECK.dueRow("others", new int[] {x.late(0, -1), x.late(241, -1), x.late(-1, -1), x.late(0, 0), x.late(241, 0)},
                -2, -2, -2, -2, -2);
        for (int far : FAR) {
            CHECK.dueRow("late(" + far + ", ..)", new int[] {x.late(far, -1), x.late(far, 0)}, -2, -2);
        }
        ThirstHours y = new ThirstHours();
        CHECK.dueRow("of nothing", new int[] {y.late(1, -1), y.late(1, 0), y.late(240, -1), y.late(240, 0), y.late(0, 0),
            y.late(241, -1)}, 0, -1, 0, -1, -2, -2);
    }

    /** "what NONE: as bits; 0: the first (NONE: none); -2: others". */
    private static void lateWhats() {
        ThirstHours x = work("dew at a holds 999 has 0 sips 2", "sips 0 has 0", 1);
        CHECK.dueRow("whats", new int[] {x.late(9, -1), x.late(9, 0), x.late(9, -2), x.late(9, 1)}, 1, 0, -2, -2);
        for (int far : FAR) {
            CHECK.due("late(9, " + far + ")", x.late(9, far), -2);
        }
    }

    /** In the last of so many hours, or an hour behind them. */
    private static void lateWithin() {
        ThirstHours x = work("dew at a holds 999 has 0 sips 3", "sips 0 has 0", 1);
        CHECK.dueRow("it comes in hour 2", new int[] {x.late(2, -1), x.late(3, -1), x.late(2, 0), x.late(3, 0)}, 0, 1, -1, 0);
        ThirstHours y = work("plain at a holds 9 has 9 sips 1", "sips 3 has 8", 3);
        CHECK.dueRow("it is missed in hour 2", new int[] {y.late(2, -1), y.late(3, -1), y.late(2, 0), y.late(3, 0)},
                0, 1, -1, 0);
        ThirstHours z = work("plain at a holds 999 has 999 sips 1;thirst base*30*(shown=0)", "sips 1 has 98", 99);
        CHECK.dueRow("in hour 98 of 240", new int[] {z.late(98, -1), z.late(99, -1), z.late(240, 0)}, 0, 1, 0);
        ThirstHours v = CHECK.withPost("place a well 0;clock k plain at a holds 999 has 0 sips 0;heat 0 to 22 9;"
                + "thirst hot*(shown<10);person e at a sips 0 has 0;work w by e clock k hour 10 pays 1;");
        CHECK.dueRow("once a day, at last", new int[] {v.late(239, -1), v.late(240, -1), v.late(239, 0), v.late(240, 0)},
                0, 1, -1, 0);
    }

    /** "works not done yet": what was late, missed or in time already is none. */
    private static void lateNotDoneYet() {
        ThirstHours x = work("dew at a holds 999 has 0 sips 2", "sips 0 has 0", 1);
        x.hours(1);
        CHECK.dueRow("an hour ahead of it", new int[] {x.late(1, -1), x.late(1, 0)}, 1, 0);
        x.hours(1);
        CHECK.dueRow("done late", new int[] {x.work(0, 4), x.late(240, -1), x.late(240, 0)}, 2, 0, -1);
        ThirstHours y = work("plain at a holds 9 has 9 sips 1", "sips 3 has 2", 1);
        CHECK.due("to be missed", y.late(1, -1), 1);
        y.hours(1);
        CHECK.dueRow("missed", new int[] {y.work(0, 4), y.late(240, -1), y.late(240, 0)}, 3, 0, -1);
        ThirstHours z = work("plain at a holds 9 has 9 sips 1", "sips 0 has 0", 1);
        CHECK.due("to be in time", z.late(240, -1), 0);
        z.hours(1);
        CHECK.due("in time", z.late(240, -1), 0);
    }

    /** What is not done within the hours is none of them. */
    private static void lateIsNotUndone() {
        ThirstHours x = work("plain at a holds 9 has 2 sips 1", "sips 0 has 0", 3);
        CHECK.dueRow("never done", new int[] {x.late(240, -1), x.late(240, 0)}, 0, -1);
    }

    /** "the first of these by hours (of equal ones the first told)". */
    private static void lateFirstByHours() {
        ThirstHours x = CHECK.withPost("place a well 0;clock k plain at a holds 9 has 9 sips 0;person e at a sips 1 has 0;"
                + "work u by e clock k hour 4 pays 1;work v by e clock k hour 2 pays 1;work w by e clock k hour 2 pays 1;"
                + "work x by e clock k hour 3 pays 1;");
        CHECK.dueRow("firsts", new int[] {x.late(1, 0), x.late(2, 0), x.late(3, 0), x.late(4, 0)}, -1, 1, 1, 1);
        CHECK.dueRow("all", new int[] {x.late(1, -1), x.late(2, -1), x.late(3, -1), x.late(4, -1)}, 0, 6, 14, 15);
        x.hours(2);
        CHECK.dueRow("two hours on", new int[] {x.late(1, 0), x.late(2, 0), x.late(2, -1)}, 3, 3, 9);
    }

    /** Promise 24: "legs (1 to 12)". */
    private static void caravanLegs() {
        ThirstHours x = clock("plain at a holds 9 has 0 sips 1");
        CHECK.dueRow("legs", new int[] {x.caravan(0, 1, 0, 1), x.caravan(0, 12, 0, 1), x.caravan(0, 0, 0, 1),
            x.caravan(0, 13, 0, 1), x.caravan(0, -1, 0, 1)}, 1, 12, -1, -1, -1);
        for (int far : FAR) {
            CHECK.due("legs " + far, x.caravan(0, far, 0, 1), -1);
        }
    }

    /** "a chance (0 to 10)": "each an hour, or two by a chance of ten". */
    private static void caravanChance() {
        ThirstHours x = clock("plain at a holds 9 has 0 sips 1");
        CHECK.dueRow("chances", new int[] {x.caravan(0, 12, 0, 1000000), x.caravan(0, 12, 10, 1000000),
            x.caravan(0, 12, 10, 1), x.caravan(0, 12, -1, 1), x.caravan(0, 12, 11, 1), x.caravan(0, 12, 11, 0)},
                12, 24, 24, -1, -1, -1);
        CHECK.dueRow("1 and 9 of ten", new int[] {x.caravan(0, 1, 1, 900000), x.caravan(0, 1, 1, 900001),
            x.caravan(0, 1, 9, 100000), x.caravan(0, 1, 9, 100001)}, 1, 2, 1, 2);
        for (int far : FAR) {
            CHECK.due("chance " + far, x.caravan(0, 1, far, 1), -1);
        }
    }

    /** "millionths (0 to 1,000,000)". */
    private static void caravanMillionths() {
        ThirstHours x = clock("plain at a holds 9 has 0 sips 1");
        CHECK.dueRow("millionths", new int[] {x.caravan(0, 3, 5, 0), x.caravan(0, 3, 5, 1), x.caravan(0, 3, 5, 1000000),
            x.caravan(0, 3, 5, -1), x.caravan(0, 3, 5, 1000001)}, 0, 3, 6, -1, -1);
        for (int far : new int[] {Integer.MIN_VALUE, Integer.MAX_VALUE, 1 << 24, -(1 << 24)}) {
            CHECK.due("millionths " + far, x.caravan(0, 1, 1, far), -1);
        }
    }

    /** "no less than so many millionths (.. exactly, cut at last)": each sum of the chances by 1 to 9 of ten, and one more. */
    private static void caravanExactly() {
        for (int legs = 1; legs <= 12; legs++) {
            for (int chance = 1; chance <= 9; chance += legs < 4 ? 1 : 4) {
                ThirstHours x = clock("plain at a holds 9 has 0 sips 1");
                java.math.BigInteger sum = java.math.BigInteger.ZERO;
                for (int two = 0; two < legs; two++) {
                    sum = sum.add(ways(legs, two, chance));
                    int cut = sum.multiply(java.math.BigInteger.valueOf(1000000))
                            .divide(java.math.BigInteger.TEN.pow(legs)).intValueExact();
                    if (cut > 0) {
                        CHECK.due(legs + " legs, " + chance + ", just " + cut, x.caravan(0, legs, chance, cut) <= legs + two, true);
                    }
                    if (cut < 1000000) {
                        CHECK.due(legs + " legs, " + chance + ", one more than " + cut,
                                x.caravan(0, legs, chance, cut + 1) > legs + two, true);
                    }
                }
            }
        }
    }

    private static java.math.BigInteger ways(int legs, int two, int chance) {
        java.math.BigInteger ways = java.math.BigInteger.ONE;
        for (int i = 0; i < two; i++) {
            ways = ways.multiply(java.math.BigInteger.valueOf(legs - i)).divide(java.math.BigInteger.valueOf(i + 1));
        }
        return ways.multiply(java.math.BigInteger.valueOf(chance).pow(two))
                .multiply(java.math.BigInteger.valueOf(10 - chance).pow(legs - two));
    }

    private static void caravanWho() {
        ThirstHours x = Check.lived();
        CHECK.dueRow("CLOCKS", new int[] {x.caravan(-1, 1, 0, 1), x.caravan(4, 1, 0, 1), x.caravan(3, 1, 0, 1)}, -1, -1, 2);
        for (int far : FAR) {
            CHECK.due("CLOCK " + far, x.caravan(far, 1, 0, 1), -1);
        }
        CHECK.due("without a POST", new ThirstHours().caravan(0, 1, 0, 0), -1);
    }

    private static void theft(ThirstHours x, int shown, int hours, int... due) {
        CHECK.dueRow("theft(0, " + shown + ", " + hours + ")", new int[] {x.theft(0, shown, hours, 0),
            x.theft(0, shown, hours, 1), x.theft(0, shown, hours, 2)}, due);
    }

    /** Promise 27: "behind so many hours (1 to 48)". */
    private static void theftHours() {
        ThirstHours x = clock("plain at a holds 99 has 99 sips 1");
        theft(x, 0, 1, 1, 0, 0);
        theft(x, 47, 48, 48, 0, 47);
        theft(x, 0, 0, -1, -1, -1);
        theft(x, 0, 49, -1, -1, -1);
        theft(x, 0, -1, -1, -1, -1);
        for (int far : FAR) {
            theft(x, 0, far, -1, -1, -1);
        }
    }

    /** "so many sips (1 to 999, no more than it has then)". */
    private static void theftSips() {
        theft(clock("plain at a holds 9 has 0 sips 1"), 0, 1, 0, -1, -1);
        theft(clock("plain at a holds 9 has 1 sips 1"), 0, 1, 1, 0, 0);
        theft(clock("plain at a holds 9 has 5 sips 5"), 0, 1, 5, 0, 0);
        theft(clock("plain at a holds 9 has 5 sips 6"), 0, 1, 5, 0, 0);
        theft(clock("plain at a holds 9 has 6 sips 5"), 0, 1, 5, 0, 0);
        theft(clock("plain at a holds 999 has 999 sips 1;thirst 99"), 0, 1, 99, 0, 0);
        theft(clock("plain at a holds 999 has 999 sips 9;thirst shown*0"), 0, 1, 0, -1, -1);
        theft(clock("plain at a holds 9 has 3 sips 1"), 3, 4, 0, -1, -1);
        theft(clock("plain at a holds 9 has 3 sips 1"), 2, 3, 3, 0, 2);
    }

    /** "stood still in the last of these": though it stood still ahead of it, too. */
    private static void theftLastHour() {
        theft(clock("plain at a holds 9 has 9 sips 1;heat 2 to 2 9;thirst hot"), 2, 3, 9 + 9 + 9, 0, 2);
        theft(clock("plain at a holds 9 has 9 sips 1;heat 1 to 1 9;thirst hot"), 2, 3, 0, -1, -1);
        theft(clock("plain at a holds 9 has 9 sips 1;heat 1 to 2 9;thirst hot"), 1, 3, 9 + 9, 0, 1);
        theft(clock("plain at a holds 9 has 9 sips 1;heat 1 to 2 9;thirst hot"), 2, 3, 0, -1, -1);
    }

    /** "hours (from 0)"; "with what it has at hour 0", whatever is now. */
    private static void theftFromHourNought() {
        ThirstHours x = clock("plain at a holds 9 has 4 sips 1");
        theft(x, 3, 4, 4, 0, 3);
        theft(x, 0, 4, 1, 0, 0);
        x.hours(2);
        x.steal(0, 2);
        theft(x, 3, 4, 4, 0, 3);
        theft(x, 0, 4, 1, 0, 0);
    }

    /** "none (but 0)". */
    private static void theftNone() {
        ThirstHours x = clock("plain at a holds 9 has 4 sips 1");
        theft(x, 4, 4, 0, -1, -1);
        theft(x, 5, 4, 0, -1, -1);
        theft(x, -1, 4, 0, -1, -1);
        theft(x, 4, 5, 0, -1, -1);
        for (int far : FAR) {
            theft(x, far, 4, 0, -1, -1);
        }
        CHECK.dueRow("whats", new int[] {x.theft(0, 3, 4, -1), x.theft(0, 3, 4, 3), x.theft(0, 9, 4, 3),
            x.theft(0, 3, 4, Integer.MIN_VALUE), x.theft(0, 3, 4, Integer.MAX_VALUE)}, -1, -1, -1, -1, -1);
    }

    private static void theftWho() {
        ThirstHours x = Check.lived();
        CHECK.dueRow("CLOCKS", new int[] {x.theft(-1, 0, 1, 0), x.theft(4, 0, 1, 0), x.theft(3, 0, 1, 0)}, -1, -1, 1);
        for (int far : FAR) {
            CHECK.due("CLOCK " + far, x.theft(far, 0, 1, 0), -1);
        }
        CHECK.due("without a POST", new ThirstHours().theft(0, 0, 1, 0), -1);
    }

    private static void years(ThirstHours x, int seed, int hours, int... due) {
        CHECK.dueRow("years(" + seed + ", " + hours + ")", new int[] {x.years(seed, hours, 0), x.years(seed, hours, 1),
            x.years(seed, hours, 2)}, due);
    }

    private static ThirstHours dry() {
        return CHECK.withPost("place a well 0;person e at a sips 1 has 0;");
    }

    /** Promise 30: "a SEED (0 to 9999)". */
    private static void yearsSeeds() {
        years(dry(), 0, 3, 0, 3, 0);
        years(dry(), 9999, 3, 0, 3, 0);
        years(dry(), -1, 3, -1, -1, -1);
        years(dry(), 10000, 3, -1, -1, -1);
        for (int far : FAR) {
            years(dry(), far, 3, -1, -1, -1);
        }
    }

    /** "so many hours (1 to 400)". */
    private static void yearsHours() {
        years(dry(), 5, 1, 0, 1, 0);
        years(dry(), 5, 400, 0, 400, 0);
        years(dry(), 5, 0, -1, -1, -1);
        years(dry(), 5, 401, -1, -1, -1);
        years(dry(), 5, -1, -1, -1, -1);
        for (int far : FAR) {
            years(dry(), 5, far, -1, -1, -1);
        }
    }

    private static void yearsWhats() {
        CHECK.dueRow("whats", new int[] {dry().years(5, 3, -1), dry().years(5, 3, 3), dry().years(5, 3, Integer.MIN_VALUE),
            dry().years(5, 3, Integer.MAX_VALUE)}, -1, -1, -1, -1);
        years(new ThirstHours(), 0, 1, 0, 0, 0);
        years(new ThirstHours(), 9999, 400, 0, 0, 0);
    }

    private static int firstLot(int seed) {
        return (int) ((seed * 1103515245L + 12345L) % 2147483648L / 65536 % 20);
    }

    private static int seedOf(int lot, int from) {
        for (int seed = from; seed <= 9999; seed++) {
            if (firstLot(seed) == lot) {
                return seed;
            }
        }
        return -1;
    }

    /** "A DRAW below m": 0 is rain, 1 a thief, 2 to 19 are nothing: by a CLOCK that only rain wets. */
    private static void yearsDraws() {
        ThirstHours x = clock("plain at a holds 9 has 0 sips 9");
        for (int seed = 0; seed <= 9999; seed += seed < 150 ? 1 : 97) {
            CHECK.due("rain by SEED " + seed, x.years(seed, 1, 2), firstLot(seed) == 0 ? 0 : 1);
        }
        for (int lot = 0; lot < 20; lot++) {
            int seed = seedOf(lot, 100 * lot);
            ThirstHours y = clock("plain at a holds 20 has 10 sips 9");
            CHECK.due("lot " + lot, y.years(seed, 1, 2), lot == 1 ? 1 : 0);
            ThirstHours z = clock("plain at a holds 20 has 8 sips 9");
            CHECK.due("lot " + lot, z.years(seed, 1, 2), lot == 0 ? 0 : 1);
        }
    }

    /** "a thief, if there are CLOCKS: a DRAW below them loses half of what it has, cut". */
    private static void yearsThief() {
        int seed = seedOf(1, 0);
        int[][] due = {{9, 5, 0}, {9, 6, 1}, {8, 4, 0}, {8, 5, 1}, {1, 1, 0}, {0, 1, 1}, {2, 1, 0}, {2, 2, 1}, {3, 2, 0},
            {3, 3, 1}};
        for (int[] row : due) {
            ThirstHours x = clock("plain at a holds 9 has " + row[0] + " sips " + row[1]);
            CHECK.due("one that has " + row[0] + " and needs " + row[1], x.years(seed, 1, 2), row[2]);
        }
        years(dry(), seed, 1, 0, 1, 0);
        years(dry(), seed, 400, 0, 400, 0);
        years(new ThirstHours(), seed, 400, 0, 0, 0);
    }

    /** "rain: each CLOCK has as much as it holds", ahead of the HOUR. */
    private static void yearsRain() {
        int seed = seedOf(0, 0);
        ThirstHours x = CHECK.withPost("place a well 0;clock k plain at a holds 9 has 0 sips 9;clock l old at a holds 5 has 2 "
                + "sips 6;clock m milk at a holds 4 has 0 sips 8;clock n dew at a holds 7 has 0 sips 7;"
                + "clock o plain at a holds 1 has 1 sips 2;clock p plain at a holds 8 has 8 sips 8;");
        years(x, seed, 1, 0, 0, 2);
        CHECK.due("nothing has changed", x.timer(0, 3) + x.timer(2, 3), 0);
    }

    /** "from now on (all is as ahead then)"; "what works pay by these; hours in which PEOPLE were DRY". */
    private static void yearsFromNow() {
        ThirstHours x = CHECK.withPost("place a well 0;clock k plain at a holds 9 has 9 sips 0;person e at a sips 0 has 0;"
                + "person f at a sips 1 has 1;person g at a sips 2 has 0;work u by e clock k hour 1 pays 3;"
                + "work v by e clock k hour 2 pays 50;work w by e clock k hour 4 pays 20;");
        years(x, 7, 1, 3, 1, 0);
        years(x, 7, 2, 53, 3, 0);
        years(x, 7, 3, 53, 5, 0);
        years(x, 7, 4, 73, 7, 0);
        x.hours(1);
        years(x, 7, 1, 50, 2, 0);
        years(x, 7, 2, 50, 4, 0);
        years(x, 7, 3, 70, 6, 0);
        CHECK.dueRow("now", new int[] {x.count(5), x.count(7), x.person(1, 3), x.person(2, 3)}, 1, 3, 0, 1);
    }

    /** None of these questions changes anything, be it answered or not. */
    private static void askingChangesNothing() {
        ThirstHours x = Check.lived();
        for (int c = -1; c <= 4; c++) {
            x.shows(c, 200);
            x.stops(c);
            x.caravan(c, 9, 4, 500000);
            x.theft(c, 3, 20, 0);
        }
        x.late(240, 0);
        x.late(240, -1);
        x.years(17, 400, 0);
        x.years(17, 400, 1);
        x.years(17, 401, 2);
        CHECK.same("behind questions", x, Check.lived());
    }
}
