import java.util.ArrayList;
import java.util.List;
import java.util.NoSuchElementException;
import java.util.function.Supplier;
import java.util.function.ToLongFunction;

/** What all tests share: it feeds texts, counts answers that are not due, and ends the test. */
final class Check {
    /** Stands for the exception of rests. */
    static final int THROWN = -77;

    private static final String RICH = "place a well 50;place b well 900;place c well 0;way a b 2;way b c 3;"
            + "clock k plain at a holds 30 has 20 sips 1;clock l old at b holds 500 has 300 sips 2;"
            + "clock m milk at c holds 99 has 60 sips 3;clock n dew at a holds 9 has 4 sips 2;"
            + "person e at a sips 1 has 40;person f at b sips 2 has 500;person g at c sips 0 has 7;"
            + "work u by e clock k hour 3 pays 5;work v by f clock l hour 9 pays 7;work w by g clock m hour 2 pays 9;"
            + "work x by e clock n hour 30 pays 3;heat 2 to 4 1;";

    private int asked;
    private int wrong;

    void due(String call, long got, long want) {
        asked++;
        if (got != want) {
            wrong++;
            System.out.println(call + " answered " + got + ", due is " + want);
        }
    }

    void due(String call, boolean got, boolean want) {
        due(call, got ? 1 : 0, want ? 1 : 0);
    }

    /** Each answer of a row of calls, in turn. */
    void dueRow(String calls, int[] got, int... want) {
        due(calls + ", how many", got.length, want.length);
        for (int i = 0; i < got.length && i < want.length; i++) {
            due(calls + "[" + i + "]", got[i], want[i]);
        }
    }

    /**
     * The call is answered so and changes nothing: an object on which it was called is compared with
     * one that was made likewise, on which it was not.
     */
    void refused(String call, Supplier<ThirstHours> made, ToLongFunction<ThirstHours> ask, long want) {
        ThirstHours x = made.get();
        due(call, ask.applyAsLong(x), want);
        same("behind " + call, x, made.get());
    }

    /** Both objects are alike, in what can be undone and gone back to, too. */
    void same(String when, ThirstHours x, ThirstHours twin) {
        dueRow("all " + when, state(x), state(twin));
        dueRow("all undone " + when, undone(x), undone(twin));
        dueRow("MARKS " + when, gone(x), gone(twin));
    }

    /** Whatever can be asked of a state and changes nothing. */
    static int[] state(ThirstHours x) {
        List<Integer> all = new ArrayList<>();
        for (int what = 0; what <= 13; what++) {
            all.add(x.count(what));
        }
        for (int i = 0; i < 6; i++) {
            for (int what = 0; what < 8 && i < x.count(2); what++) {
                all.add(x.timer(i, what));
            }
            for (int what = 0; what < 4 && i < x.count(3); what++) {
                all.add(x.person(i, what));
            }
            for (int what = 0; what < 5 && i < x.count(4); what++) {
                all.add(x.work(i, what));
            }
            for (int to = 0; to < 5; to++) {
                all.add(x.way(i, to));
            }
            all.add(x.well(i));
            all.add(x.stops(i));
        }
        for (int what = 0; what < 4; what++) {
            all.add(x.judged(what));
            all.add(x.truth(what));
            all.add(x.laws(what));
        }
        all.add(x.late(240, -1));
        return row(all);
    }

    private static int[] undone(ThirstHours x) {
        List<Integer> all = new ArrayList<>();
        for (int i = 0; i < 17; i++) {
            all.add(x.undo() ? 1 : 0);
            all.add(x.count(5));
            all.add(x.count(13));
        }
        return row(all);
    }

    private static int[] gone(ThirstHours x) {
        List<Integer> all = new ArrayList<>();
        for (int mark = 0; mark < 4; mark++) {
            all.add(x.mark(mark, true) ? 1 : 0);
            for (int what = 5; what <= 13; what++) {
                all.add(x.count(what));
            }
        }
        return row(all);
    }

    private static int[] row(List<Integer> all) {
        return all.stream().mapToInt(Integer::intValue).toArray();
    }

    /** An object with a POST, on which all that can change has changed; two MARKS are laid, the TAPE is not empty. */
    static ThirstHours lived() {
        ThirstHours x = new ThirstHours();
        readPost(x, RICH);
        x.mark(1, false);
        x.hours(2);
        x.draw(0, 10);
        x.pour(0, 0, 5);
        x.go(1, 0);
        x.steal(1, 20);
        readDays(x, "hour 5;pour g m 9;pour e k 9;steal n 3;hour 20;");
        x.say(0, 10, 2);
        x.say(1, 13, 2);
        x.tell(2, 5);
        x.mark(2, false);
        x.hours(1);
        feed(x, "place");
        return x;
    }

    static int rests(ThirstHours x, int one, int other, int what) {
        try {
            return x.rests(one, other, what);
        } catch (NoSuchElementException e) {
            return THROWN;
        }
    }

    void end() {
        System.out.println(wrong == 0 ? asked + " answers are as due" : wrong + " answers are not as due");
        if (wrong != 0) {
            System.exit(1);
        }
    }

    /** Puts a text on the TAPE, 24 signs a call; what is on it then. */
    static int feed(ThirstHours x, String text) {
        int many = 0;
        for (int at = 0; at < text.length(); at += 24) {
            many = x.feed(eight(text, at), eight(text, at + 8), eight(text, at + 16));
        }
        return many;
    }

    private static long eight(String text, int from) {
        long bytes = 0;
        for (int i = from; i < from + 8; i++) {
            bytes = bytes << 8 | (i < text.length() ? text.charAt(i) & 255 : 0);
        }
        return bytes;
    }

    static int readPost(ThirstHours x, String text) {
        feed(x, text);
        return x.post();
    }

    static int readDays(ThirstHours x, String text) {
        feed(x, text);
        return x.days();
    }

    /** A new object with a POST that must be without a FAULT. */
    ThirstHours withPost(String text) {
        ThirstHours x = new ThirstHours();
        due("post() of " + text, readPost(x, text), 0);
        return x;
    }
}
