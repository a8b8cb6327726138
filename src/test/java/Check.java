import java.util.ArrayList;
import java.util.List;
import java.util.NoSuchElementException;
import java.util.function.Supplier;
import java.util.function.ToLongFunction;

/** What all tests share: it feeds texts, counts answers that are not due, and ends the test. */
final class Check {
    /** Stands for the exception of rests. */
    static final int THROWN = -77;

    /** As many PLACES, CLOCKS, PEOPLE and works as can be told, no two alike. */
    static final String FULL = "place a well 10;place b well 20;place c well 30;place d well 40;place e well 50;"
            + "clock f plain at a holds 11 has 1 sips 1;clock g old at b holds 12 has 2 sips 2;"
            + "clock h milk at c holds 13 has 3 sips 3;clock i dew at d holds 14 has 4 sips 4;"
            + "clock j plain at e holds 15 has 5 sips 5;clock k old at a holds 16 has 6 sips 6;"
            + "person l at a sips 1 has 1;person m at b sips 2 has 2;person n at c sips 3 has 3;person o at d sips 4 has 4;"
            + "work p by l clock f hour 1 pays 1;work q by m clock g hour 2 pays 2;work r by n clock h hour 3 pays 3;"
            + "work s by o clock i hour 4 pays 4;work t by l clock j hour 5 pays 5;work u by l clock k hour 6 pays 6;"
            + "way a b 1;way b c 1;way c d 1;way d e 1;";

    private static final String RICH = "place a well 50;place b well 900;place c well 0;way a b 2;way b c 3;"
            + "clock k plain at a holds 30 has 20 sips 1;clock l old at b holds 500 has 300 sips 2;"
            + "clock m milk at c holds 99 has 60 sips 3;clock n dew at a holds 9 has 4 sips 2;"
            + "person e at a sips 1 has 40;person f at b sips 2 has 500;person g at c sips 0 has 7;"
            + "work u by e clock k hour 3 pays 5;work v by f clock l hour 9 pays 7;work w by g clock m hour 2 pays 9;"
            + "work x by e clock n hour 30 pays 3;heat 2 to 4 1;";

    private int asked;
    private int wrong;

    void due(String call, long got, long want) {
        asked++;
        if (got != want) {
            wrong++;
            System.out.println(call + " answered " + got + ", due is " + want);
        }
    }

    void due(String call, boolean got, boolean want) {
        due(call, got ? 1 : 0, want ? 1 : 0);
    }

    /** Each answer of a row of calls, in turn. */
    void dueRow(String calls, int[] got, int... want) {
        due(calls + ", how many", got.length, want.length);
        for (int i = 0; i < got.length && i < want.length; i++) {
            due(calls + "[" + i + "]", got[i], want[i]);
        }
    }

    /**
     * The call is answered so and changes nothing: an object on which it was called is compared with
     * one that was made likewise, on which it was not.
     */
    void refused(String call, Supplier<ThirstHours> made, ToLongFunction<ThirstHours> ask, long want) {
        ThirstHours x = made.get();
        due(call, ask.applyAsLong(x), want);
        same("behind " + call, x, made.get());
    }

    /** Both objects are alike, in what can be undone and gone back to, too. */
    void same(String when, ThirstHours x, ThirstHours twin) {
        dueRow("all " + when, state(x), state(twin));
        dueRow("all undone " + when, undone(x), undone(twin));
        dueRow("MARKS " + when, gone(x), gone(twin));
    }

    /** Whatever can be asked of a state and changes nothing. */
    static int[] state(ThirstHours x) {
        List<Integer> all = new ArrayList<>();
        for (int what = 0; what <= 13; what++) {
            all.add(x.count(what));
        }
        for (int i = 0; i < 6; i++) {
            for (int what = 0; what < 8 && i < x.count(2); what++) {
                all.add(x.timer(i, what));
            }
            for (int what = 0; what < 4 && i < x.count(3); what++) {
                all.add(x.person(i, what));
            }
            for (int what = 0; what < 5 && i < x.count(4); what++) {
                all.add(x.work(i, what));
            }
            for (int to = 0; to < 5; to++) {
                all.add(x.way(i, to));
            }
            all.add(x.well(i));
            all.add(x.stops(i));
        }
        for (int what = 0; what < 4; what++) {
            all.add(x.judged(what));
            all.add(x.truth(what));
            all.add(x.laws(what));
        }
        all.add(x.late(240, -1));
        return row(all);
    }

    private static int[] undone(ThirstHours x) {
        List<Integer> all = new ArrayList<>();
        for (int i = 0; i < 17; i++) {
            all.add(x.undo() ? 1 : 0);
            all.add(x.count(5));
            all.add(x.count(13));
        }
        return row(all);
    }

    private static int[] gone(ThirstHours x) {
        List<Integer> all = new ArrayList<>();
        for (int mark = 0; mark < 4; mark++) {
            all.add(x.mark(mark, true) ? 1 : 0);
            for (int what = 5; what <= 13; what++) {
                all.add(x.count(what));
            }
        }
        return row(all);
    }

    private static int[] row(List<Integer> all) {
        return all.stream().mapToInt(Integer::intValue).toArray();
    }

    /** An object with a POST, on which all that can change has changed; two MARKS are laid, the TAPE is not empty. */
    static ThirstHours lived() {
        ThirstHours x = new ThirstHours();
        readPost(x, RICH);
        x.mark(1, false);
        x.hours(2);
        x.draw(0, 10);
        x.pour(0, 0, 5);
        x.go(1, 0);
        x.steal(1, 20);
        readDays(x, "hour 5;pour g m 9;pour e k 9;steal n 3;hour 20;");
        x.say(0, 10, 2);
        x.say(1, 13, 2);
        x.tell(2, 5);
        x.mark(2, false);
        x.hours(1);
        feed(x, "place");
        return x;
    }

    static final int ALL_DEEDS = 16;

    /** FULL, with works that can all be done in the first hours. */
    static String all() {
        return FULL.replaceAll("hour [1-6]", "hour 1");
    }

    /** One of the deeds that together change all that can change of all(), when they are done in turn. */
    static int deed(ThirstHours x, int deed) {
        switch (deed) {
            case 0: return x.draw(0, 5);
            case 1: return x.draw(1, 6);
            case 2: return x.draw(2, 7);
            case 3: return x.draw(3, 8);
            case 4: return x.pour(0, 0, 2);
            case 5: return x.pour(1, 1, 2);
            case 6: return x.pour(2, 2, 2);
            case 7: return x.pour(3, 3, 2);
            case 8: return x.hours(1);
            case 9: return x.steal(1, 1);
            case 10: return x.go(3, 4);
            case 11: return x.draw(3, 9);
            case 12: return x.go(2, 1);
            case 13: return x.hours(4);
            case 14: return x.go(0, 1);
            default: return x.go(1, 2);
        }
    }

    /** All that can change by deeds: what CLOCKS have, show, if they stand still; PEOPLE, wells, works. */
    static int[] changing(ThirstHours x) {
        List<Integer> all = new ArrayList<>();
        for (int i = 0; i < 6; i++) {
            all.addAll(List.of(x.timer(i, 3), x.timer(i, 5), x.timer(i, 6), x.work(i, 4)));
        }
        for (int i = 0; i < 4; i++) {
            all.addAll(List.of(x.person(i, 0), x.person(i, 2), x.person(i, 3)));
        }
        for (int i = 0; i < 5; i++) {
            all.add(x.well(i));
        }
        return row(all);
    }

    static int rests(ThirstHours x, int one, int other, int what) {
        try {
            return x.rests(one, other, what);
        } catch (NoSuchElementException e) {
            return THROWN;
        }
    }

    void end() {
        System.out.println(wrong == 0 ? asked + " answers are as due" : wrong + " answers are not as due");
        if (wrong != 0) {
            System.exit(1);
        }
    }

    /** Puts a text on the TAPE, 24 signs a call; what is on it then. */
    static int feed(ThirstHours x, String text) {
        int many = 0;
        for (int at = 0; at < text.length(); at += 24) {
            many = x.feed(eight(text, at), eight(text, at + 8), eight(text, at + 16));
        }
        return many;
    }

    private static long eight(String text, int from) {
        long bytes = 0;
        for (int i = from; i < from + 8; i++) {
            bytes = bytes << 8 | (i < text.length() ? text.charAt(i) & 255 : 0);
        }
        return bytes;
    }

    static int readPost(ThirstHours x, String text) {
        feed(x, text);
        return x.post();
    }

    static int readDays(ThirstHours x, String text) {
        feed(x, text);
        return x.days();
    }

    /** A new object with a POST that must be without a FAULT. */
    ThirstHours withPost(String text) {
        ThirstHours x = new ThirstHours();
        due("post() of " + text, readPost(x, text), 0);
        return x;
    }
}
