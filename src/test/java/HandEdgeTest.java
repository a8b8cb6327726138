import java.util.ArrayList;
import java.util.List;
import java.util.function.ToLongFunction;

/** The edges of promises 11 to 15: what hands may do; what can't be changes nothing. */
public final class HandEdgeTest {
    private static final Check CHECK = new Check();
    private static final int[] FAR = {-1, Integer.MIN_VALUE, Integer.MAX_VALUE, 1 << 16, -(1 << 16)};

    /** Of the Check's object that has lived: e (who has 40) and f are at a (its well has 40), g is at c. */
    private static void refused(String call, ToLongFunction<ThirstHours> ask) {
        CHECK.refused(call, Check::lived, ask, -1);
    }

    public static void main(String[] args) {
        drawSips();
        drawTheWell();
        drawTo999();
        drawWho();
        pourSips();
        pourWhatHeHas();
        pourWhatItHolds();
        pourAtHisPlace();
        pourWho();
        eachForHimself();
        goOneStep();
        goTakesHours();
        goWho();
        stealSips();
        stealWhatItHas();
        stealWho();
        undoNothing();
        undoEach();
        undoSixteen();
        undoAllThereIs();
        refusedIsNotUndone();
        onlyTheseAreUndone();
        CHECK.end();
    }

    private static ThirstHours made(int well, int holds, int has, int water) {
        return CHECK.withPost("place a well " + well + ";place b well 9;way a b 2;clock k plain at a holds " + holds + " has "
                + has + " sips 0;clock l plain at b holds 9 has 5 sips 0;person e at a sips 0 has " + water + ";");
    }

    /** "DRAW (1 to 999)". */
    private static void drawSips() {
        ThirstHours x = made(9999, 1, 0, 0);
        CHECK.due("draw 1", x.draw(0, 1), 1);
        CHECK.due("draw 998", x.draw(0, 998), 999);
        CHECK.due("the well", x.well(0), 9000);
        CHECK.due("draw 999", made(999, 1, 0, 0).draw(0, 999), 999);
        CHECK.due("draw 1000", made(9999, 1, 0, 0).draw(0, 1000), -1);
        refused("draw(0, 0)", x1 -> x1.draw(0, 0));
        refused("draw(0, 1000)", x1 -> x1.draw(0, 1000));
        for (int far : FAR) {
            refused("draw(0, " + far + ")", x1 -> x1.draw(0, far));
        }
    }

    /** "so much from his PLACE's well (no more than it has". */
    private static void drawTheWell() {
        ThirstHours x = made(7, 1, 0, 0);
        CHECK.due("draw 8 of 7", x.draw(0, 8), -1);
        CHECK.due("draw 7 of 7", x.draw(0, 7), 7);
        CHECK.due("the well", x.well(0), 0);
        CHECK.due("draw 1 of 0", x.draw(0, 1), -1);
        x.go(0, 1);
        CHECK.due("draw 10 of 9 at the other PLACE", x.draw(0, 10), -1);
        CHECK.due("draw 9 of 9 at the other PLACE", x.draw(0, 9), 16);
        CHECK.dueRow("the wells", new int[] {x.well(0), x.well(1)}, 0, 0);
        CHECK.due("draw 40 of 40", Check.lived().draw(0, 40), 80);
        refused("draw of one more than the well has", x1 -> x1.draw(0, 41));
        refused("draw of an empty well", x1 -> x1.draw(2, 1));
    }

    /** "he has 999 at most". */
    private static void drawTo999() {
        CHECK.due("997 and 2", made(9, 1, 0, 997).draw(0, 2), 999);
        CHECK.due("997 and 3", made(9, 1, 0, 997).draw(0, 3), -1);
        CHECK.due("999 and 1", made(9, 1, 0, 999).draw(0, 1), -1);
        CHECK.due("0 and 999", made(9999, 1, 0, 0).draw(0, 999), 999);
        CHECK.due("1 and 999", made(9999, 1, 0, 1).draw(0, 999), -1);
        CHECK.refused("draw beyond 999", () -> made(9, 1, 0, 997), x -> x.draw(0, 3), -1);
    }

    private static void drawWho() {
        CHECK.due("the last PERSON", CHECK.withPost("place a well 9;person e at a sips 0 has 0;person f at a sips 0 has 1;")
                .draw(1, 1), 2);
        refused("draw(3, 1)", x -> x.draw(3, 1));
        for (int far : FAR) {
            refused("draw(" + far + ", 1)", x -> x.draw(far, 1));
        }
        CHECK.refused("draw by nobody", ThirstHours::new, x -> x.draw(0, 1), -1);
    }

    /** "POUR (1 to 999)". */
    private static void pourSips() {
        CHECK.due("pour 1", made(0, 999, 0, 999).pour(0, 0, 1), 1);
        CHECK.due("pour 999", made(0, 999, 0, 999).pour(0, 0, 999), 999);
        refused("pour(0, 0, 0)", x -> x.pour(0, 0, 0));
        refused("pour(0, 0, 1000)", x -> x.pour(0, 0, 1000));
        for (int far : FAR) {
            refused("pour(0, 0, " + far + ")", x -> x.pour(0, 0, far));
        }
    }

    /** "so much of what he has". */
    private static void pourWhatHeHas() {
        ThirstHours x = made(0, 99, 10, 7);
        CHECK.due("pour 8 of 7", x.pour(0, 0, 8), -1);
        CHECK.due("pour 7 of 7", x.pour(0, 0, 7), 17);
        CHECK.due("he has nothing", x.person(0, 2), 0);
        CHECK.due("pour 1 of 0", x.pour(0, 0, 1), -1);
        CHECK.refused("pour of one more than he has", () -> made(0, 99, 10, 7), y -> y.pour(0, 0, 8), -1);
    }

    /** "(no more than it holds)". */
    private static void pourWhatItHolds() {
        ThirstHours x = made(0, 20, 10, 99);
        CHECK.due("pour 11 for 10", x.pour(0, 0, 11), -1);
        CHECK.due("pour 10 for 10", x.pour(0, 0, 10), 20);
        CHECK.due("what he has", x.person(0, 2), 89);
        CHECK.due("pour into a full one", x.pour(0, 0, 1), -1);
        CHECK.due("pour 2 into one that holds 1", made(0, 1, 0, 9).pour(0, 0, 2), -1);
        CHECK.due("pour 1 into one that holds 1", made(0, 1, 0, 9).pour(0, 0, 1), 1);
        CHECK.refused("pour of one more than it holds", () -> made(0, 20, 10, 99), y -> y.pour(0, 0, 11), -1);
    }

    /** "into a CLOCK at his PLACE". */
    private static void pourAtHisPlace() {
        ThirstHours x = made(0, 20, 10, 99);
        CHECK.due("at another PLACE", x.pour(0, 1, 1), -1);
        x.go(0, 1);
        CHECK.due("at his PLACE then", x.pour(0, 1, 1), 6);
        CHECK.due("at the PLACE that he left", x.pour(0, 0, 1), -1);
        CHECK.refused("pour at another PLACE", () -> made(0, 20, 10, 99), y -> y.pour(0, 1, 1), -1);
        refused("pour at another PLACE", y -> y.pour(0, 2, 1));
    }

    private static void pourWho() {
        refused("pour(3, 0, 1)", x -> x.pour(3, 0, 1));
        refused("pour(0, 4, 1)", x -> x.pour(0, 4, 1));
        for (int far : FAR) {
            refused("pour(" + far + ", 0, 1)", x -> x.pour(far, 0, 1));
            refused("pour(0, " + far + ", 1)", x -> x.pour(0, far, 1));
        }
        CHECK.refused("pour by nobody", ThirstHours::new, x -> x.pour(0, 0, 1), -1);
    }

    /** What one draws, pours or does is of no other one: his water, his PLACE, his CLOCK. */
    private static void eachForHimself() {
        String names = "abcd";
        StringBuilder text = new StringBuilder();
        for (int i = 0; i < 4; i++) {
            text.append("place ").append(names.charAt(i)).append(" well ").append(50 + i).append(';');
        }
        for (int i = 0; i < 4; i++) {
            text.append("clock k").append(names.charAt(i)).append(" plain at ").append(names.charAt(3 - i))
                    .append(" holds 99 has ").append(20 + i).append(" sips 0;person p").append(names.charAt(i)).append(" at ")
                    .append(names.charAt(3 - i)).append(" sips 0 has ").append(30 + i).append(";way ").append(names.charAt(i))
                    .append(' ').append(names.charAt((i + 1) % 4)).append(" 1;");
        }
        for (int who = 0; who < 4; who++) {
            ThirstHours x = CHECK.withPost(text.toString());
            CHECK.due("draw", x.draw(who, 5), 35 + who);
            CHECK.due("pour", x.pour(who, who, 7), 27 + who);
            CHECK.due("steal", x.steal(who, 3), 24 + who);
            CHECK.due("go", x.go(who, (4 - who) % 4), 1);
            for (int i = 0; i < 4; i++) {
                boolean own = i == who;
                CHECK.dueRow(i + " behind the deeds of " + who, new int[] {x.person(i, 0), x.person(i, 2), x.timer(i, 3),
                    x.well(3 - i)}, own ? (4 - i) % 4 : 3 - i, 30 + i - (own ? 2 : 0), 20 + i + (own ? 4 : 0),
                        53 - i - (own ? 5 : 0));
            }
        }
    }

    /** "GO to a PLACE by its way"; "NONE: .. no way of one step". */
    private static void goOneStep() {
        CHECK.due("go", Check.lived().go(0, 1), 7);
        CHECK.due("go the other way about", Check.lived().go(2, 1), 8);
        refused("go to where he is", x -> x.go(0, 0));
        refused("go two steps", x -> x.go(0, 2));
        refused("go two steps back", x -> x.go(2, 0));
        CHECK.refused("go where no way leads", () -> CHECK.withPost("place a well 0;place b well 0;person e at a sips 0 has 0;"),
                x -> x.go(0, 1), -1);
        CHECK.refused("go to where he is", () -> CHECK.withPost("place a well 0;person e at a sips 0 has 0;"),
                x -> x.go(0, 0), -1);
    }

    /** "so many HOURS pass, then he is there": 1 to 9; by the way itself though another is shorter. */
    private static void goTakesHours() {
        for (int hours = 1; hours <= 9; hours += 8) {
            ThirstHours x = CHECK.withPost("place a well 0;place b well 0;place c well 0;way a b " + hours + ";way a c 1;"
                    + "way c b 1;clock k plain at a holds 99 has 99 sips 1;person e at a sips 2 has 5;");
            CHECK.due("go", x.go(0, 1), hours);
            CHECK.dueRow("hours passed, where, CLOCK, PERSON, DRY", new int[] {x.count(5), x.person(0, 0), x.timer(0, 3),
                x.person(0, 2), x.person(0, 3)}, hours, 1, 99 - hours, hours == 1 ? 3 : 1, hours == 1 ? 0 : 7);
            CHECK.due("undo", x.undo(), true);
            CHECK.dueRow("as before", new int[] {x.count(5), x.person(0, 0), x.timer(0, 3), x.person(0, 2)}, 0, 0, 99, 5);
        }
    }

    private static void goWho() {
        refused("go(3, 1)", x -> x.go(3, 1));
        refused("go(0, 3)", x -> x.go(0, 3));
        for (int far : FAR) {
            refused("go(" + far + ", 1)", x -> x.go(far, 1));
            refused("go(0, " + far + ")", x -> x.go(0, far));
        }
        CHECK.refused("go by nobody", ThirstHours::new, x -> x.go(0, 0), -1);
    }

    /** "STEAL (1 to 999)". */
    private static void stealSips() {
        CHECK.due("steal 1", made(0, 999, 999, 0).steal(0, 1), 998);
        CHECK.due("steal 999", made(0, 999, 999, 0).steal(0, 999), 0);
        refused("steal(0, 0)", x -> x.steal(0, 0));
        refused("steal(0, 1000)", x -> x.steal(0, 1000));
        for (int far : FAR) {
            refused("steal(0, " + far + ")", x -> x.steal(0, far));
        }
    }

    /** "so much from a CLOCK that has it"; "NONE: others, it has less". */
    private static void stealWhatItHas() {
        ThirstHours x = made(0, 20, 7, 0);
        CHECK.due("steal 8 of 7", x.steal(0, 8), -1);
        CHECK.due("steal 7 of 7", x.steal(0, 7), 0);
        CHECK.due("steal 1 of 0", x.steal(0, 1), -1);
        CHECK.refused("steal of one more than it has", () -> made(0, 20, 7, 0), y -> y.steal(0, 8), -1);
        CHECK.refused("steal of nothing", () -> made(0, 20, 0, 0), y -> y.steal(0, 1), -1);
    }

    private static void stealWho() {
        CHECK.due("the last CLOCK", made(0, 20, 7, 0).steal(1, 5), 0);
        refused("steal(4, 1)", x -> x.steal(4, 1));
        for (int far : FAR) {
            refused("steal(" + far + ", 1)", x -> x.steal(far, 1));
        }
        CHECK.refused("steal without CLOCKS", ThirstHours::new, x -> x.steal(0, 1), -1);
    }

    /** Promise 15: "false: nothing can be." */
    private static void undoNothing() {
        CHECK.refused("undo on a new object", ThirstHours::new, x -> x.undo() ? 1 : 0, 0);
        CHECK.refused("undo behind a POST", () -> made(1, 2, 1, 1), x -> x.undo() ? 1 : 0, 0);
        CHECK.refused("undo behind a MARK", () -> {
            ThirstHours x = Check.lived();
            x.mark(1, true);
            return x;
        }, x -> x.undo() ? 1 : 0, 0);
    }

    /** "UNDO: these", each of the five. */
    private static void undoEach() {
        ToLongFunction<ThirstHours> hours = x -> x.hours(24);
        ToLongFunction<ThirstHours> draw = x -> x.draw(0, 5);
        ToLongFunction<ThirstHours> pour = x -> x.pour(0, 0, 1);
        ToLongFunction<ThirstHours> go = x -> x.go(0, 1);
        ToLongFunction<ThirstHours> steal = x -> x.steal(3, 1);
        int[] due = {29, 45, 18, 7, 1};
        int i = 0;
        for (ToLongFunction<ThirstHours> deed : List.of(hours, draw, pour, go, steal)) {
            ThirstHours x = Check.lived();
            CHECK.due("deed " + i, deed.applyAsLong(x), due[i]);
            CHECK.due("one more can be undone", x.count(11), 7);
            CHECK.due("undo of deed " + i, x.undo(), true);
            CHECK.same("behind undo of deed " + i, x, Check.lived());
            i++;
        }
    }

    /** "the last 16, one by one". */
    private static void undoSixteen() {
        for (int many : new int[] {15, 16, 17, 33}) {
            ThirstHours x = CHECK.withPost("place a well 9999;person e at a sips 0 has 0;");
            for (int i = 1; i <= many; i++) {
                CHECK.due("draw", x.draw(0, 1), i);
            }
            int last = Math.min(many, 16);
            CHECK.due("what can be undone", x.count(11), last);
            for (int i = 1; i <= last; i++) {
                CHECK.due("undo " + i + " of " + many, x.undo(), true);
                CHECK.due("what he has", x.person(0, 2), many - i);
                CHECK.due("what can be undone", x.count(11), last - i);
            }
            CHECK.due("undo one more", x.undo(), false);
            CHECK.due("what he has", x.person(0, 2), many - last);
            CHECK.due("draw again", x.draw(0, 1), many - last + 1);
            CHECK.due("what can be undone", x.count(11), 1);
        }
    }

    /** Sixteen deeds that change all there is of as much as can be told, each undone to just what was ahead of it. */
    private static void undoAllThereIs() {
        ThirstHours x = CHECK.withPost(Check.all());
        List<int[]> ahead = new ArrayList<>();
        for (int deed = 0; deed < Check.ALL_DEEDS; deed++) {
            ahead.add(Check.state(x));
            CHECK.due("deed " + deed, Check.deed(x, deed) >= 0, true);
        }
        int[] first = Check.changing(CHECK.withPost(Check.all()));
        int[] last = Check.changing(x);
        for (int i = 0; i < first.length; i++) {
            CHECK.due("the " + i + "th has changed", first[i] != last[i], true);
        }
        for (int deed = Check.ALL_DEEDS - 1; deed >= 0; deed--) {
            CHECK.due("undo of deed " + deed, x.undo(), true);
            CHECK.dueRow("all ahead of deed " + deed, Check.state(x), ahead.get(deed));
        }
        CHECK.same("behind all undone", x, CHECK.withPost(Check.all()));
    }

    /** What can't be leaves what can be undone: also when 16 can. */
    private static void refusedIsNotUndone() {
        ThirstHours x = made(20, 9, 0, 0);
        for (int i = 0; i < 16; i++) {
            x.draw(0, 1);
        }
        CHECK.dueRow("refused", new int[] {x.draw(0, 5), x.pour(0, 1, 1), x.go(0, 0), x.steal(0, 1), x.hours(0)},
                -1, -1, -1, -1, -1);
        for (int i = 15; i >= 0; i--) {
            CHECK.due("undo", x.undo(), true);
            CHECK.due("what he has", x.person(0, 2), i);
        }
        CHECK.due("undo", x.undo(), false);
    }

    /** SAYING, TELLING, DAYS, MARKS and signs are none of these. */
    private static void onlyTheseAreUndone() {
        ThirstHours x = made(20, 9, 0, 0);
        x.draw(0, 1);
        x.say(0, 1, 1);
        x.tell(1, 1);
        Check.readDays(x, "hour 1;");
        x.mark(0, false);
        Check.feed(x, "abc");
        CHECK.due("what can be undone", x.count(11), 1);
        CHECK.due("undo", x.undo(), true);
        CHECK.dueRow("lines, SAID, TOLD, signs", new int[] {x.count(8), x.count(9), x.count(10), x.count(12)}, 1, 1, 1, 3);
        CHECK.due("the MARK", x.mark(0, true), true);
        CHECK.due("what he had then", x.person(0, 2), 1);
    }
}
