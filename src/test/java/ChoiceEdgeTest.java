/** The edges of promises 20 to 23, 25, 26, 28 and 29: what is best, or fits; a sentence each. */
public final class ChoiceEdgeTest {
    private static final Check CHECK = new Check();
    private static final int[] FAR = {Integer.MIN_VALUE, Integer.MAX_VALUE, 1 << 16, -(1 << 16)};

    public static void main(String[] args) {
        siegeWater();
        siegeJustEnough();
        siegeBoth();
        siegeMilk();
        siegeLastHour();
        siegeEqualOnes();
        siegeOfAll();
        siegeWhats();
        siegeWithNothing();
        sayShown();
        sayOff();
        sayWho();
        tenSaid();
        truthHours();
        truthEitherWay();
        truthGap();
        truthOff();
        truthOfNothing();
        truthWhats();
        roundInTime();
        roundWithin240();
        roundFirstOrder();
        roundWithoutWay();
        roundNothingToDo();
        roundBeyond();
        roundWho();
        tellHeat();
        tellDrunk();
        twelveTold();
        lawsEdges();
        lawsTells();
        lawsNone();
        lawsWhats();
        cupsHolds();
        cupsHours();
        cupsNeedMore();
        cupsFirstRow();
        cupsWhats();
        restsPlaces();
        restsWhats();
        restsNone();
        sellAtTheFirst();
        sellNowhere();
        sellAtHisOwn();
        pricesToNine();
        askingChangesNothing();
        CHECK.end();
    }

    private static void siege(ThirstHours x, int water, int... due) {
        CHECK.dueRow("siege(" + water + ")", new int[] {x.siege(water, 0), x.siege(water, 1), x.siege(water, 2)}, due);
    }

    private static ThirstHours oneWork(String kind, int sips, int drinks, int hour) {
        return CHECK.withPost("place a well 0;clock k " + kind + " at a holds 9 has 9 sips " + sips + ";person e at a sips "
                + drinks + " has 9;work w by e clock k hour " + hour + " pays 7;");
    }

    /** Promise 20: "so much water (0 to 9999)". */
    private static void siegeWater() {
        ThirstHours x = oneWork("plain", 0, 0, 99);
        siege(x, 0, 7, 1, 1);
        siege(x, 9999, 7, 1, 1);
        siege(x, -1, -1, -1, -1);
        siege(x, 10000, -1, -1, -1);
        for (int far : FAR) {
            siege(x, far, -1, -1, -1);
        }
    }

    /** "each from it, hour by hour to the last hour of a work kept": just so much, or one sip less. */
    private static void siegeJustEnough() {
        siege(oneWork("plain", 3, 2, 4), 20, 7, 1, 1);
        siege(oneWork("plain", 3, 2, 4), 19, 0, 0, 0);
        siege(oneWork("plain", 0, 1, 1), 1, 7, 1, 1);
        siege(oneWork("plain", 0, 1, 1), 0, 0, 0, 0);
        siege(oneWork("plain", 1, 0, 1), 1, 7, 1, 1);
        siege(oneWork("plain", 1, 0, 1), 0, 0, 0, 0);
        siege(oneWork("plain", 9, 9, 99), 9 * 2 * 99, 7, 1, 1);
        siege(oneWork("plain", 9, 9, 99), 9 * 2 * 99 - 1, 0, 0, 0);
    }

    /** "a work is kept if both its CLOCK and its PERSON are". */
    private static void siegeBoth() {
        ThirstHours x = CHECK.withPost("place a well 0;clock k plain at a holds 9 has 9 sips 1;"
                + "clock l plain at a holds 9 has 9 sips 1;person e at a sips 1 has 9;person f at a sips 1 has 9;"
                + "work u by e clock k hour 1 pays 3;work v by f clock l hour 1 pays 4;work w by e clock l hour 1 pays 2;");
        siege(x, 1, 0, 0, 0);
        siege(x, 2, 4, 2, 2);
        siege(x, 3, 6, 2, 3);
        siege(x, 4, 9, 3, 3);
    }

    /** "works by milk ones are never kept"; "dew and leaks aside". */
    private static void siegeMilk() {
        siege(oneWork("milk", 0, 0, 1), 9999, 0, 0, 0);
        siege(oneWork("plain", 2, 0, 5), 10, 7, 1, 1);
        siege(oneWork("old", 2, 0, 5), 10, 7, 1, 1);
        siege(oneWork("dew", 2, 0, 5), 10, 7, 1, 1);
        siege(oneWork("dew", 2, 0, 5), 9, 0, 0, 0);
        siege(oneWork("old", 2, 0, 5), 9, 0, 0, 0);
    }

    /** "in each hour up to the last of its works kept": hour 2's heat is not of a work of hour 2. */
    private static void siegeLastHour() {
        for (int hour = 1; hour <= 3; hour++) {
            ThirstHours x = CHECK.withPost("place a well 0;clock k plain at a holds 9 has 9 sips 1;person e at a sips 0 has 9;"
                    + "work w by e clock k hour " + hour + " pays 7;heat 2 to 2 9;");
            int cost = hour == 3 ? 12 : hour;
            siege(x, cost, 7, 1, 1);
            siege(x, cost - 1, 0, 0, 0);
        }
        ThirstHours y = CHECK.withPost("place a well 0;clock k plain at a holds 9 has 9 sips 1;person e at a sips 0 has 9;"
                + "work v by e clock k hour 2 pays 1;work w by e clock k hour 5 pays 1;");
        siege(y, 5, 2, 1, 1);
        siege(y, 4, 0, 0, 0);
    }

    /** "of equal ones the least CLOCKS' set, then PEOPLE's". */
    private static void siegeEqualOnes() {
        String three = "place a well 0;clock k plain at a holds 9 has 9 sips 1;clock l plain at a holds 9 has 9 sips 1;"
                + "person e at a sips 1 has 9;person f at a sips 1 has 9;";
        siege(CHECK.withPost(three + "work v by f clock l hour 1 pays 5;work w by e clock k hour 1 pays 5;"), 2, 5, 1, 1);
        siege(CHECK.withPost(three + "work v by e clock l hour 1 pays 5;work w by f clock k hour 1 pays 5;"), 2, 5, 1, 2);
        siege(CHECK.withPost(three + "work v by f clock l hour 1 pays 5;work w by e clock l hour 1 pays 5;"), 2, 5, 2, 1);
        siege(CHECK.withPost(three + "work v by f clock l hour 1 pays 0;"), 9999, 0, 0, 0);
        siege(CHECK.withPost(three + "work v by f clock l hour 1 pays 1;"), 9999, 1, 2, 2);
    }

    /** As many CLOCKS, PEOPLE and works as can be told, each kept alone, all but one, or all. */
    private static void siegeOfAll() {
        StringBuilder text = new StringBuilder("place a well 0;");
        for (int c = 0; c < 6; c++) {
            text.append("clock ").append((char) ('a' + c)).append("c plain at a holds 9 has 9 sips ").append(c == 5 ? 1 : 2)
                    .append(';');
        }
        for (int p = 0; p < 4; p++) {
            text.append("person ").append((char) ('a' + p)).append("p at a sips ").append(p == 3 ? 1 : 2).append(" has 9;");
        }
        for (int w = 0; w < 6; w++) {
            text.append("work ").append((char) ('a' + w)).append("w by ").append((char) ('a' + Math.min(w, 3))).append("p clock ")
                    .append((char) ('a' + w)).append("c hour ").append(w + 1).append(" pays 10;");
        }
        ThirstHours x = CHECK.withPost(text.toString());
        siege(x, 0, 0, 0, 0);
        siege(x, 4, 10, 1, 1);
        siege(x, 3, 0, 0, 0);
        int clocks = 2 * (1 + 2 + 3 + 4 + 5) + 6;
        int people = 2 * (1 + 2 + 3) + 6;
        siege(x, clocks + people, 60, 63, 15);
        siege(x, clocks + people - 1, 50, 31, 15);
        siege(x, 9999, 60, 63, 15);
    }

    /** "NONE: others". */
    private static void siegeWhats() {
        ThirstHours x = oneWork("plain", 0, 0, 1);
        CHECK.dueRow("whats", new int[] {x.siege(0, -1), x.siege(0, 0), x.siege(0, 2), x.siege(0, 3),
            x.siege(0, Integer.MIN_VALUE), x.siege(0, Integer.MAX_VALUE)}, -1, 7, 1, -1, -1, -1);
    }

    /** "from hour 0, all CLOCKS and PEOPLE with nothing": now does not count, nor who is there without works. */
    private static void siegeWithNothing() {
        siege(new ThirstHours(), 0, 0, 0, 0);
        siege(new ThirstHours(), 9999, 0, 0, 0);
        ThirstHours x = oneWork("plain", 3, 2, 4);
        x.hours(24);
        siege(x, 20, 7, 1, 1);
        siege(x, 19, 0, 0, 0);
    }

    private static ThirstHours clocks() {
        return CHECK.withPost("place a well 0;clock k plain at a holds 9 has 9 sips 0;clock l milk at a holds 9 has 9 sips 0;");
    }

    private static void notSaid(int timer, int shown, int off) {
        CHECK.refused("say(" + timer + ", " + shown + ", " + off + ")", Check::lived, x -> x.say(timer, shown, off) ? 1 : 0, 0);
    }

    /** Promise 21: "a CLOCK shows so much (0 to 999)". */
    private static void sayShown() {
        CHECK.due("0", clocks().say(0, 0, 1), true);
        CHECK.due("999", clocks().say(0, 999, 1), true);
        notSaid(0, -1, 1);
        notSaid(0, 1000, 1);
        for (int far : FAR) {
            notSaid(0, far, 1);
        }
    }

    /** "off by no more than so much (0 to 99)". */
    private static void sayOff() {
        CHECK.due("0", clocks().say(0, 1, 0), true);
        CHECK.due("99", clocks().say(0, 1, 99), true);
        notSaid(0, 1, -1);
        notSaid(0, 1, 100);
        for (int far : FAR) {
            notSaid(0, 1, far);
        }
    }

    private static void sayWho() {
        CHECK.due("the last CLOCK", Check.lived().say(3, 1, 1), true);
        notSaid(-1, 1, 1);
        notSaid(4, 1, 1);
        for (int far : FAR) {
            notSaid(far, 1, 1);
        }
        CHECK.refused("say without CLOCKS", ThirstHours::new, x -> x.say(0, 1, 1) ? 1 : 0, 0);
    }

    private static ThirstHours tenHeard() {
        ThirstHours x = clocks();
        for (int i = 0; i < 10; i++) {
            CHECK.due("say " + i, x.say(i % 2, 7, 1), true);
            CHECK.due("SAID", x.count(9), i + 1);
        }
        return x;
    }

    /** "10 at most"; "false: .. 10 are SAID". */
    private static void tenSaid() {
        CHECK.due("all ten", tenHeard().truth(3), 0);
        CHECK.refused("an 11th", ChoiceEdgeTest::tenHeard, x -> x.say(0, 7, 1) ? 1 : 0, 0);
        CHECK.refused("an 11th of no CLOCK", ChoiceEdgeTest::tenHeard, x -> x.say(2, 7, 1) ? 1 : 0, 0);
        ThirstHours x = tenHeard();
        x.post();
        CHECK.due("a POST forgets them", x.count(9), 0);
    }

    private static void truth(ThirstHours x, int... due) {
        CHECK.dueRow("truth", new int[] {x.truth(0), x.truth(1), x.truth(2), x.truth(3)}, due);
    }

    private static ThirstHours said(int... shownAndOff) {
        ThirstHours x = clocks();
        for (int i = 0; i < shownAndOff.length; i += 2) {
            CHECK.due("say", x.say(0, shownAndOff[i], shownAndOff[i + 1]), true);
        }
        return x;
    }

    /** Promise 22: "hours (0 to 1,098)". */
    private static void truthHours() {
        truth(said(0, 99), 100, 0, 99, 0);
        truth(said(999, 99), 199, 900, 1098, 0);
        truth(said(999, 98), 197, 901, 1097, 0);
        truth(said(0, 0), 1, 0, 0, 0);
        truth(said(999, 99, 999, 99), 199, 900, 1098, 0);
        truth(said(0, 0, 999, 99), 200, 0, 0, 1);
    }

    /** "off by no more than so much .. either way". */
    private static void truthEitherWay() {
        truth(said(50, 3), 7, 47, 53, 0);
        truth(said(50, 3, 53, 0), 1, 53, 53, 0);
        truth(said(50, 3, 54, 0), 8, 47, 54, 1);
        truth(said(50, 3, 47, 0), 1, 47, 47, 0);
        truth(said(50, 3, 46, 0), 8, 46, 53, 1);
        truth(said(2, 3), 6, 0, 5, 0);
    }

    /** "the last one on from it without a gap". */
    private static void truthGap() {
        truth(said(10, 1, 13, 1), 6, 9, 14, 1);
        truth(said(10, 1, 14, 1), 6, 9, 11, 1);
        truth(said(14, 1, 10, 1), 6, 9, 11, 1);
        truth(said(10, 1, 13, 1, 12, 0), 1, 12, 12, 1);
    }

    /** "how many are off then". */
    private static void truthOff() {
        truth(said(10, 0, 10, 0), 1, 10, 10, 0);
        truth(said(10, 0, 10, 0, 20, 0), 1, 10, 10, 1);
        truth(said(1, 0, 2, 0, 3, 0, 4, 0, 5, 0, 6, 0, 7, 0, 8, 0, 9, 0, 10, 0), 10, 1, 10, 9);
    }

    private static void truthOfNothing() {
        truth(new ThirstHours(), 1099, 0, 1098, 0);
        truth(clocks(), 1099, 0, 1098, 0);
    }

    private static void truthWhats() {
        ThirstHours x = said(10, 1);
        CHECK.dueRow("whats", new int[] {x.truth(-1), x.truth(4), x.truth(Integer.MIN_VALUE), x.truth(Integer.MAX_VALUE)},
                -1, -1, -1, -1);
    }

    private static final String WAYS = "place a well 0;place b well 0;place c well 0;way a b 2;way b c 3;"
            + "person e at a sips 0 has 0;";

    private static String thirsty(String name, String place, int has) {
        return "clock " + name + " plain at " + place + " holds 999 has " + has + " sips 1;";
    }

    private static void round(String clocks, int... due) {
        ThirstHours x = CHECK.withPost(WAYS + clocks);
        for (int what = 0; what <= 6; what++) {
            CHECK.due("round(0, " + what + ") of " + clocks, x.round(0, what), what < due.length ? due[what] : -1);
        }
    }

    /** Promise 23: "each ahead of the hour in which it first stands still": just then, or an hour too late. */
    private static void roundInTime() {
        round(thirsty("k", "b", 2), 2, 1);
        round(thirsty("k", "b", 1));
        round(thirsty("k", "a", 0), 0, 0);
        round(thirsty("k", "c", 5), 5, 2);
        round(thirsty("k", "c", 4));
        round(thirsty("k", "b", 2) + thirsty("l", "c", 5), 5, 1, 2);
        round(thirsty("k", "b", 2) + thirsty("l", "c", 4));
        round(thirsty("k", "b", 8) + thirsty("l", "c", 5), 5, 1, 2);
        round(thirsty("k", "b", 9) + thirsty("l", "b", 1));
        round(thirsty("k", "b", 2) + thirsty("l", "a", 4) + thirsty("m", "c", 9), 5, 0, 1, 2);
    }

    /** "CLOCKS that stop within 240 hours". */
    private static void roundWithin240() {
        round(thirsty("k", "c", 240), 5, 2);
        round(thirsty("k", "c", 241), 0);
        round(thirsty("k", "c", 241) + thirsty("l", "b", 240), 2, 1);
        round(thirsty("k", "c", 999) + thirsty("l", "c", 240), 5, 2);
    }

    /** "the soonest end; of equal ones the first order". */
    private static void roundFirstOrder() {
        String more = "way a c 2;";
        round(more + thirsty("k", "b", 99) + thirsty("l", "c", 99), 5, 1, 2);
        round(more + thirsty("k", "c", 99) + thirsty("l", "b", 99), 5, 1, 2);
        round(more + thirsty("k", "c", 4) + thirsty("l", "b", 99), 5, 2, 1);
        round(more + thirsty("k", "c", 5) + thirsty("l", "b", 99), 5, 1, 2);
        round(thirsty("k", "a", 99) + thirsty("l", "c", 99), 5, 0, 2);
    }

    /** "by the shortest ways": to a PLACE of the order none leads; one whose CLOCKS do not stop he need not come to. */
    private static void roundWithoutWay() {
        String far = "place d well 0;";
        round(far + thirsty("k", "d", 240));
        round(far + thirsty("k", "b", 240) + thirsty("l", "d", 240));
        round(far + thirsty("k", "a", 240) + thirsty("l", "d", 240));
        round(far + thirsty("k", "b", 240) + thirsty("l", "d", 0));
        round(far + thirsty("k", "b", 240) + thirsty("l", "d", 241), 2, 1);
        round(far + thirsty("k", "b", 240) + thirsty("l", "c", 240) + thirsty("m", "d", 240));
        round(far + thirsty("k", "b", 2) + thirsty("l", "c", 5) + thirsty("m", "d", 5));
    }

    private static void roundNothingToDo() {
        round("", 0);
        round("clock k plain at c holds 9 has 0 sips 0;", 0);
        CHECK.due("without way or CLOCK", CHECK.withPost("place a well 0;person e at a sips 0 has 0;").round(0, 0), 0);
    }

    /** "1 + i: the i-th PLACE of the order; NONE: others, none, beyond." */
    private static void roundBeyond() {
        ThirstHours x = CHECK.withPost(WAYS + thirsty("k", "b", 9));
        CHECK.dueRow("round", new int[] {x.round(0, -1), x.round(0, 0), x.round(0, 1), x.round(0, 2), x.round(0, 5),
            x.round(0, 6), x.round(0, Integer.MIN_VALUE), x.round(0, Integer.MAX_VALUE)}, -1, 2, 1, -1, -1, -1, -1, -1);
        ThirstHours y = CHECK.withPost("place a well 0;place b well 0;place c well 0;place d well 0;place e well 0;way a b 1;"
                + "way b c 1;way c d 1;way d e 1;person z at a sips 0 has 0;" + thirsty("k", "a", 99) + thirsty("l", "b", 99)
                + thirsty("m", "c", 99) + thirsty("n", "d", 99) + thirsty("o", "e", 99));
        CHECK.dueRow("five PLACES", new int[] {y.round(0, 0), y.round(0, 1), y.round(0, 2), y.round(0, 3), y.round(0, 4),
            y.round(0, 5), y.round(0, 6)}, 4, 0, 1, 2, 3, 4, -1);
        ThirstHours z = CHECK.withPost(WAYS + thirsty("k", "b", 1));
        CHECK.dueRow("none", new int[] {z.round(0, 0), z.round(0, 1), z.round(0, 2)}, -1, -1, -1);
    }

    private static void roundWho() {
        ThirstHours x = CHECK.withPost(WAYS + "person f at b sips 0 has 0;" + thirsty("k", "b", 0));
        CHECK.dueRow("PEOPLE", new int[] {x.round(-1, 0), x.round(0, 0), x.round(1, 0), x.round(2, 0)}, -1, -1, 0, -1);
        for (int far : FAR) {
            CHECK.due("PERSON " + far, x.round(far, 0), -1);
        }
        CHECK.due("nobody", new ThirstHours().round(0, 0), -1);
    }

    private static void notTold(int heat, int drunk) {
        CHECK.refused("tell(" + heat + ", " + drunk + ")", Check::lived, x -> x.tell(heat, drunk) ? 1 : 0, 0);
    }

    /** Promise 25: "at a heat (0 to 9)". */
    private static void tellHeat() {
        CHECK.due("0", new ThirstHours().tell(0, 1), true);
        CHECK.due("9", new ThirstHours().tell(9, 1), true);
        notTold(-1, 1);
        notTold(10, 1);
        for (int far : FAR) {
            notTold(far, 1);
        }
    }

    /** "so much was drunk in an hour (0 to 99)". */
    private static void tellDrunk() {
        CHECK.due("0", new ThirstHours().tell(1, 0), true);
        CHECK.due("99", new ThirstHours().tell(1, 99), true);
        notTold(1, -1);
        notTold(1, 100);
        for (int far : FAR) {
            notTold(1, far);
        }
    }

    private static ThirstHours twelveHeard() {
        ThirstHours x = new ThirstHours();
        for (int i = 0; i < 12; i++) {
            CHECK.due("tell " + i, x.tell(4, 9), true);
            CHECK.due("TOLD", x.count(10), i + 1);
        }
        return x;
    }

    /** "12 at most"; "false: .. 12 are TOLD". */
    private static void twelveTold() {
        CHECK.due("laws by twelve", twelveHeard().laws(0), 3);
        CHECK.refused("a 13th", ChoiceEdgeTest::twelveHeard, x -> x.tell(4, 9) ? 1 : 0, 0);
        CHECK.refused("a 13th that parts", ChoiceEdgeTest::twelveHeard, x -> x.tell(5, 11) ? 1 : 0, 0);
        ThirstHours x = new ThirstHours();
        for (int i = 0; i < 11; i++) {
            x.tell(4, 9);
        }
        x.tell(5, 11);
        CHECK.dueRow("the 12th parts", new int[] {x.laws(0), x.laws(1)}, 1, 12);
        x.post();
        CHECK.due("a POST forgets them", x.count(10), 0);
    }

    private static void laws(ThirstHours x, int... due) {
        CHECK.dueRow("laws", new int[] {x.laws(0), x.laws(1), x.laws(2)}, due);
    }

    private static ThirstHours told(int... heatAndDrunk) {
        ThirstHours x = new ThirstHours();
        for (int i = 0; i < heatAndDrunk.length; i += 2) {
            CHECK.due("tell", x.tell(heatAndDrunk[i], heatAndDrunk[i + 1]), true);
        }
        return x;
    }

    /** Promise 26: "LAWS a + b * heat (a, b 0 to 9)". */
    private static void lawsEdges() {
        laws(told(0, 9), 10, 90, 1);
        laws(told(0, 10), 0, -1, -1);
        laws(told(9, 90), 1, 99, -1);
        laws(told(9, 91), 0, -1, -1);
        laws(told(9, 0), 1, 0, -1);
        laws(told(1, 18), 1, 99, -1);
        laws(told(1, 19), 0, -1, -1);
        laws(told(9, 9), 2, 1, 0);
        laws(told(9, 10), 1, 11, -1);
        laws(told(9, 81), 2, 9, 0);
    }

    /** "the heat at which the greatest number of LAWS that say the same is the least; of equal ones the first". */
    private static void lawsTells() {
        laws(new ThirstHours(), 100, 0, 5);
        laws(told(0, 5), 10, 50, 1);
        laws(told(1, 1), 2, 1, 0);
        laws(told(2, 8), 5, 4, 0);
        CHECK.due("5 is the first of equal ones", new ThirstHours().laws(2), bestHeat());
    }

    /** The heat that TELLS of all 100 LAWS, counted anew. */
    private static int bestHeat() {
        int best = -1;
        int least = 1000;
        for (int heat = 0; heat <= 9; heat++) {
            int most = 0;
            for (int says = 0; says <= 90; says++) {
                int many = 0;
                for (int b = 0; b <= 9; b++) {
                    many += says - b * heat >= 0 && says - b * heat <= 9 ? 1 : 0;
                }
                most = Math.max(most, many);
            }
            if (most < least) {
                least = most;
                best = heat;
            }
        }
        return best;
    }

    /** "(NONE: nothing parts them); NONE: others, none (but 0)". */
    private static void lawsNone() {
        laws(told(2, 5, 3, 7), 1, 12, -1);
        laws(told(2, 5, 2, 6), 0, -1, -1);
        laws(told(9, 99), 0, -1, -1);
        laws(told(2, 1), 1, 10, -1);
    }

    private static void lawsWhats() {
        ThirstHours x = told(2, 5);
        CHECK.dueRow("whats", new int[] {x.laws(-1), x.laws(3), x.laws(Integer.MIN_VALUE), x.laws(Integer.MAX_VALUE)},
                -1, -1, -1, -1);
    }

    private static ThirstHours needing(int... sips) {
        StringBuilder text = new StringBuilder("place a well 0;");
        for (int i = 0; i < sips.length; i++) {
            text.append("clock ").append((char) ('k' + i)).append(" plain at a holds 9 has 0 sips ").append(sips[i]).append(';');
        }
        return CHECK.withPost(text.toString());
    }

    private static void cups(ThirstHours x, int holds, int hours, int... due) {
        CHECK.dueRow("cups(" + holds + ", " + hours + ")", new int[] {x.cups(holds, hours, 0), x.cups(holds, hours, 1)}, due);
    }

    /** Promise 28: "CUPS that hold so much (1 to 9999)". */
    private static void cupsHolds() {
        cups(needing(1), 1, 1, 1, 1);
        cups(needing(1), 9999, 1, 1, 1);
        cups(needing(0), 0, 1, -1, -1);
        cups(needing(0), 10000, 1, -1, -1);
        cups(needing(0), -1, 1, -1, -1);
        for (int far : FAR) {
            cups(needing(0), far, 1, -1, -1);
        }
    }

    /** "for so many hours (1 to 99)". */
    private static void cupsHours() {
        cups(needing(3), 297, 99, 1, 1);
        cups(needing(3), 296, 99, -1, -1);
        cups(needing(3), 3, 1, 1, 1);
        cups(needing(3), 9999, 0, -1, -1);
        cups(needing(3), 9999, 100, -1, -1);
        cups(needing(3), 9999, -1, -1, -1);
        for (int far : FAR) {
            cups(needing(0), 9999, far, -1, -1);
        }
    }

    /** "NONE: .. one needs more than a cup"; all together in just one, or a sip more than that. */
    private static void cupsNeedMore() {
        cups(needing(4, 5), 5, 1, 2, 1);
        cups(needing(4, 5), 4, 1, -1, -1);
        cups(needing(5, 4), 4, 1, -1, -1);
        cups(needing(4, 5), 9, 1, 1, 3);
        cups(needing(4, 5), 8, 1, 2, 1);
        cups(needing(9, 9, 9, 9, 9, 9), 54, 1, 1, 63);
        cups(needing(9, 9, 9, 9, 9, 9), 53, 1, 2, 31);
        cups(needing(9, 9, 9, 9, 9, 9), 9, 1, 6, 1);
        cups(new ThirstHours(), 1, 1, 0, 0);
    }

    /** "of equal ways the first row of cups". */
    private static void cupsFirstRow() {
        cups(needing(1, 1, 1), 2, 1, 2, 3);
        cups(needing(2, 1, 1), 2, 1, 2, 1);
        cups(needing(1, 2, 1), 2, 1, 2, 5);
        cups(needing(1, 2, 1, 2), 3, 1, 2, 3);
        cups(needing(1, 3, 3, 1), 4, 1, 2, 3);
        cups(needing(0, 2, 2), 2, 1, 2, 3);
        cups(needing(4, 3, 2, 3, 4, 2), 6, 1, 3, 5);
    }

    private static void cupsWhats() {
        CHECK.dueRow("whats", new int[] {needing(1).cups(9, 1, -1), needing(1).cups(9, 1, 2),
            needing(1).cups(9, 1, Integer.MIN_VALUE), needing(1).cups(9, 1, Integer.MAX_VALUE)}, -1, -1, -1, -1);
    }

    private static final String THREE = "place a well 0;place b well 0;place c well 0;";

    private static void rests(String post, int one, int other, int... due) {
        ThirstHours x = CHECK.withPost(post);
        CHECK.due("rests(" + one + ", " + other + ", NONE) of " + post, Check.rests(x, one, other, -1), due.length);
        for (int i = 0; i < due.length; i++) {
            CHECK.due("rests(" + one + ", " + other + ", " + i + ") of " + post, Check.rests(x, one, other, i), due[i]);
        }
        CHECK.due("one beyond", Check.rests(x, one, other, due.length), Check.THROWN);
    }

    private static void refusedRests(int one, int other, int what) {
        CHECK.refused("rests(" + one + ", " + other + ", " + what + ")", Check::lived, x -> Check.rests(x, one, other, what),
                Check.THROWN);
    }

    /** Promise 29: "NoSuchElementException: others, the same". */
    private static void restsPlaces() {
        CHECK.due("the last PLACES", Check.rests(Check.lived(), 2, 1, -1) >= 0, true);
        refusedRests(0, 0, -1);
        refusedRests(2, 2, 0);
        refusedRests(-1, 0, -1);
        refusedRests(0, -1, -1);
        refusedRests(3, 0, -1);
        refusedRests(0, 3, -1);
        for (int far : FAR) {
            refusedRests(far, 0, -1);
            refusedRests(0, far, -1);
        }
        CHECK.due("without a POST", Check.rests(new ThirstHours(), 0, 1, -1), Check.THROWN);
        CHECK.due("one PLACE alone", Check.rests(CHECK.withPost("place a well 0;"), 0, 1, -1), Check.THROWN);
    }

    /** "what NONE: how many; i: the i-th"; "none such". */
    private static void restsWhats() {
        ThirstHours x = CHECK.withPost(THREE);
        CHECK.dueRow("all at rest", new int[] {Check.rests(x, 0, 1, -1), Check.rests(x, 0, 1, 0), Check.rests(x, 0, 1, 9),
            Check.rests(x, 0, 1, 10), Check.rests(x, 0, 1, 99), Check.rests(x, 0, 1, 100), Check.rests(x, 0, 1, -2)},
                100, 0, 9, 10, 99, Check.THROWN, Check.THROWN);
        refusedRests(0, 1, -2);
        refusedRests(0, 1, 100);
        for (int far : FAR) {
            refusedRests(0, 1, far);
        }
    }

    /** Prices of which none rests: 0 of them, and no first one. */
    private static void restsNone() {
        rests(THREE + "way a b 1;person e at a sips 1 has 0;person f at b sips 1 has 0;", 0, 1);
        int none = 0;
        for (int way = 1; way <= 9; way++) {
            for (int sips = 1; sips <= 9; sips++) {
                ThirstHours x = CHECK.withPost(THREE + "way a b " + way + ";person e at a sips 5 has 0;person f at b sips " + sips
                        + " has 0;");
                int many = Check.rests(x, 0, 1, -1);
                CHECK.due("the last of " + many, Check.rests(x, 0, 1, many), Check.THROWN);
                CHECK.due("the first of " + many, Check.rests(x, 0, 1, 0) == Check.THROWN, many == 0);
                none += many == 0 ? 1 : 0;
            }
        }
        CHECK.due("without any at rest, at least once", none > 0, true);
    }

    /** "of equal ones at the first". */
    private static void sellAtTheFirst() {
        String between = THREE + "way c a 1;way c b 1;person e at c sips 1 has 0;";
        rests(between, 0, 1, 0, 10, 11);
        rests(between, 1, 0, 0, 10, 11);
    }

    /** "nowhere without a way to either"; with a way to one alone he buys there at any price. */
    private static void sellNowhere() {
        CHECK.due("neither", Check.rests(CHECK.withPost(THREE + "person e at c sips 9 has 0;"), 0, 1, -1), 100);
        rests(THREE + "way c a 9;person e at c sips 1 has 0;", 0, 1, 90, 91, 92, 93, 94, 95, 96, 97, 98, 99);
        rests(THREE + "way c b 9;person e at c sips 1 has 0;", 0, 1, 9, 19, 29, 39, 49, 59, 69, 79, 89, 99);
    }

    /** "0 at his own"; "by the shortest ways". */
    private static void sellAtHisOwn() {
        rests(THREE + "way a b 9;person e at a sips 1 has 0;", 0, 1, 90, 91, 92, 93, 94, 95, 96, 97, 98, 99);
        rests(THREE + "way a b 8;person e at a sips 1 has 0;", 0, 1, 80, 91, 92, 93, 94, 95, 96, 97, 98, 99);
        rests(THREE + "way a b 9;way a c 4;way c b 4;person e at a sips 1 has 0;", 0, 1,
                80, 91, 92, 93, 94, 95, 96, 97, 98, 99);
    }

    /** "0 to 9 a sip". */
    private static void pricesToNine() {
        rests(THREE + "way a b 9;person e at a sips 1 has 0;person f at b sips 1 has 0;", 0, 1, 99);
        CHECK.due("no price beyond 9", Check.rests(CHECK.withPost(THREE), 0, 1, 99), 99);
    }

    private static void askingChangesNothing() {
        ThirstHours x = Check.lived();
        for (int what = -1; what <= 3; what++) {
            x.siege(500, what);
            x.truth(what);
            x.laws(what);
            x.round(0, what);
            x.round(1, what);
            x.cups(90, 9, what);
            Check.rests(x, 0, 1, what);
            Check.rests(x, 2, 0, what);
        }
        CHECK.same("behind questions", x, Check.lived());
    }
}
