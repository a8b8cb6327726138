import java.util.Random;

/** Promise 29: rests. */
public final class RestsTest {
    private static final Check CHECK = new Check();

    /** How many, each, and nothing behind them. */
    private static void all(ThirstHours x, int one, int other, int... due) {
        String call = "rests(" + one + ", " + other;
        CHECK.due(call + ", NONE)", Check.rests(x, one, other, -1), due.length);
        for (int i = 0; i < due.length; i++) {
            CHECK.due(call + ", " + i + ")", Check.rests(x, one, other, i), due[i]);
        }
        CHECK.due(call + ", " + due.length + ")", Check.rests(x, one, other, due.length), Check.THROWN);
        CHECK.due(call + ", far)", Check.rests(x, one, other, Integer.MAX_VALUE), Check.THROWN);
    }

    private static final String TWO = "place a well 0;place b well 0;place c well 0;";

    public static void main(String[] args) {
        alone();
        between();
        nobody();
        byAll();
        byAnyPeople();
        moving();
        wrongOnes();
        CHECK.end();
    }

    /** With a way to one PLACE alone, or with a long one to the other, 9 is the best there. */
    private static void alone() {
        ThirstHours x = CHECK.withPost(TWO + "person e at a sips 2 has 0;");
        all(x, 0, 1, 90, 91, 92, 93, 94, 95, 96, 97, 98, 99);
        all(x, 1, 0, 9, 19, 29, 39, 49, 59, 69, 79, 89, 99);
        ThirstHours y = CHECK.withPost(TWO + "way a b 9;person e at a sips 2 has 0;person f at b sips 1 has 0;");
        all(y, 0, 1, 99);
        ThirstHours z = CHECK.withPost(TWO + "person e at c sips 2 has 0;");
        CHECK.due("nowhere without a way", Check.rests(z, 0, 1, -1), 100);
        CHECK.due("the least first", Check.rests(z, 0, 1, 0), 0);
        CHECK.due("the last", Check.rests(z, 0, 1, 99), 99);
        CHECK.due("beyond the last", Check.rests(z, 0, 1, 100), Check.THROWN);
    }

    /** All who could buy at either, at equal hours: the first one has them at equal prices. */
    private static void between() {
        ThirstHours x = CHECK.withPost(TWO + "way c a 1;way c b 1;person e at c sips 2 has 0;");
        all(x, 0, 1, 0, 10, 11);
        all(x, 1, 0, 0, 10, 11);
        ThirstHours y = CHECK.withPost(TWO + "way a b 3;person e at a sips 1 has 0;");
        all(y, 0, 1, 30, 41);
        all(y, 1, 0, 2, 13);
    }

    private static void nobody() {
        ThirstHours x = CHECK.withPost(TWO);
        CHECK.due("nobody buys", Check.rests(x, 2, 1, -1), 100);
        ThirstHours y = CHECK.withPost(TWO + "way a b 3;person e at a sips 0 has 0;");
        CHECK.due("nobody drinks", Check.rests(y, 0, 1, -1), 100);
    }

    /** Against all other prices, one by one. */
    private static void byAll() {
        String[] people = {"person e at a sips 3 has 0;person f at b sips 2 has 0;",
            "person e at a sips 3 has 0;person f at c sips 4 has 0;person g at c sips 9 has 0;",
            "person e at d sips 5 has 0;person f at c sips 4 has 0;person g at b sips 1 has 0;person h at a sips 1 has 0;",
            "person e at a sips 9 has 0;person f at a sips 9 has 0;person g at b sips 1 has 0;"};
        String[] ways = {"way a b 2;way b c 3;", "way a c 4;way b c 1;", "way a c 1;way b c 2;way a b 7;", "way a b 8;"};
        for (String who : people) {
            for (String way : ways) {
                ThirstHours x = CHECK.withPost(TWO + "place d well 0;" + way + who);
                for (int one = 0; one < 4; one++) {
                    for (int other = 0; other < 4; other++) {
                        if (one != other) {
                            all(x, one, other, resting(x, one, other));
                        }
                    }
                }
            }
        }
    }

    /** Against all other prices, for people and ways of all sorts. */
    private static void byAnyPeople() {
        Random lots = new Random(29);
        String names = "abcd";
        for (int i = 0; i < 250; i++) {
            StringBuilder text = new StringBuilder(TWO).append("place d well 0;");
            for (int from = 0; from < 4; from++) {
                for (int to = from + 1; to < 4; to++) {
                    if (lots.nextInt(3) > 0) {
                        text.append("way ").append(names.charAt(from)).append(' ').append(names.charAt(to)).append(' ')
                                .append(1 + lots.nextInt(9)).append(';');
                    }
                }
            }
            for (int e = lots.nextInt(4); e >= 0; e--) {
                text.append("person ").append((char) ('e' + e)).append(" at ").append(names.charAt(lots.nextInt(4)))
                        .append(" sips ").append(lots.nextInt(10)).append(" has 0;");
            }
            ThirstHours x = CHECK.withPost(text.toString());
            all(x, 0, 1, resting(x, 0, 1));
            all(x, 3, 2, resting(x, 3, 2));
        }
    }

    private static int[] resting(ThirstHours x, int one, int other) {
        java.util.ArrayList<Integer> found = new java.util.ArrayList<>();
        for (int p = 0; p <= 9; p++) {
            for (int q = 0; q <= 9; q++) {
                boolean rests = true;
                for (int r = 0; r <= 9; r++) {
                    rests &= gain(x, one, other, r, q, true) <= gain(x, one, other, p, q, true);
                    rests &= gain(x, one, other, p, r, false) <= gain(x, one, other, p, q, false);
                }
                if (rests) {
                    found.add(10 * p + q);
                }
            }
        }
        return found.stream().mapToInt(Integer::intValue).toArray();
    }

    private static int gain(ThirstHours x, int one, int other, int p, int q, boolean first) {
        int gain = 0;
        for (int e = 0; e < x.count(3); e++) {
            int hours = x.way(x.person(e, 0), one);
            int otherHours = x.way(x.person(e, 0), other);
            long cost = hours < 0 ? Long.MAX_VALUE : hours + p;
            long otherCost = otherHours < 0 ? Long.MAX_VALUE : otherHours + q;
            if (hours >= 0 || otherHours >= 0) {
                boolean buysFirst = cost <= otherCost;
                gain += buysFirst == first ? x.person(e, 1) * (first ? p : q) : 0;
            }
        }
        return gain;
    }

    /** People buy from where they are now. */
    private static void moving() {
        ThirstHours x = CHECK.withPost(TWO + "way a c 2;person e at a sips 1 has 0;");
        all(x, 1, 0, 9, 19, 29, 39, 49, 59, 69, 79, 89, 99);
        all(x, 0, 2, 20, 31);
        x.go(0, 2);
        all(x, 0, 2, 1, 12);
    }

    private static void wrongOnes() {
        ThirstHours x = CHECK.withPost(TWO + "way a b 3;person e at a sips 1 has 0;");
        int[] far = {-1, 3, Integer.MIN_VALUE, Integer.MAX_VALUE};
        for (int place : far) {
            CHECK.due("rests(" + place + ", 0, NONE)", Check.rests(x, place, 0, -1), Check.THROWN);
            CHECK.due("rests(0, " + place + ", NONE)", Check.rests(x, 0, place, -1), Check.THROWN);
        }
        CHECK.due("the same", Check.rests(x, 1, 1, -1), Check.THROWN);
        CHECK.due("what -2", Check.rests(x, 0, 1, -2), Check.THROWN);
        CHECK.due("what far", Check.rests(x, 0, 1, Integer.MIN_VALUE), Check.THROWN);
        CHECK.due("no PLACES", Check.rests(new ThirstHours(), 0, 1, -1), Check.THROWN);
    }
}
