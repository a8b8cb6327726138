import java.util.ArrayDeque;
import java.util.Deque;
import java.util.List;
import java.util.Random;

/** All answers beside those of the Model, for POSTs of all sizes, one after another on each object. */
public final class ModelTest {
    private static final Check CHECK = new Check();

    private final Random lots;
    private final ThirstHours x = new ThirstHours();
    private Model first;
    private Model now;
    private final Deque<Model> ahead = new ArrayDeque<>();
    private String when;

    private ModelTest(long seed) {
        lots = new Random(seed);
    }

    public static void main(String[] args) {
        for (int seed = 0; seed < 60; seed++) {
            ModelTest test = new ModelTest(seed);
            for (int post = 0; post < 4; post++) {
                test.run(seed);
            }
        }
        CHECK.end();
    }

    private void run(int seed) {
        first = Model.any(lots);
        now = first.copy();
        ahead.clear();
        when = "SEED " + seed + ", " + first.text();
        CHECK.due("post() of " + when, Check.readPost(x, first.text()), 0);
        state();
        questions();
        for (int i = 0; i < 14; i++) {
            deed();
            state();
        }
        questions();
        judged();
        while (!ahead.isEmpty()) {
            CHECK.due("undo " + when, x.undo(), true);
            now = ahead.pop();
            state();
        }
        CHECK.due("nothing to undo " + when, x.undo(), false);
    }

    private void state() {
        CHECK.dueRow("counts " + when, new int[] {x.count(0), x.count(2), x.count(3), x.count(4), x.count(5), x.count(7),
            x.count(11)}, now.places, now.clocks, now.people, now.works, now.hour, now.paid(), ahead.size());
        for (int c = 0; c < now.clocks; c++) {
            CHECK.dueRow("CLOCK " + c + " " + when, new int[] {x.timer(c, 0), x.timer(c, 1), x.timer(c, 2), x.timer(c, 3),
                x.timer(c, 4), x.timer(c, 5), x.timer(c, 6), x.timer(c, 7)}, now.kind[c], now.at[c], now.holds[c], now.has[c],
                    now.base[c], now.shows[c], now.still[c] ? 1 : 0, now.thirst(c, now.hour, now.shows[c]));
        }
        for (int p = 0; p < now.people; p++) {
            CHECK.dueRow("PERSON " + p + " " + when, new int[] {x.person(p, 0), x.person(p, 1), x.person(p, 2), x.person(p, 3)},
                    now.where[p], now.sips[p], now.water[p], now.dry[p]);
        }
        for (int w = 0; w < now.works; w++) {
            CHECK.dueRow("work " + w + " " + when, new int[] {x.work(w, 0), x.work(w, 1), x.work(w, 2), x.work(w, 3),
                x.work(w, 4)}, now.by[w], now.clock[w], now.due[w], now.pays[w], now.done[w]);
        }
        for (int p = 0; p < now.places; p++) {
            CHECK.due("well " + p + " " + when, x.well(p), now.wells[p]);
        }
        CHECK.dueRow("one beyond " + when, new int[] {x.timer(now.clocks, 3), x.person(now.people, 2), x.work(now.works, 4),
            x.well(now.places)}, -1, -1, -1, -1);
    }

    /** A deed with numbers that are often right. */
    private void deed() {
        Model then = now.copy();
        int who = lots.nextInt(now.people + 1);
        int clock = lots.nextInt(now.clocks + 1);
        int much = 1 + lots.nextInt(lots.nextBoolean() ? 5 : 40);
        int got;
        int due;
        switch (lots.nextInt(6)) {
            case 0:
                got = x.draw(who, much);
                due = now.draw(who, much);
                break;
            case 1:
                got = x.pour(who, clock, much);
                due = now.pour(who, clock, much);
                break;
            case 2:
                int place = lots.nextInt(now.places + 1);
                got = x.go(who, place);
                due = now.go(who, place);
                break;
            case 3:
                got = x.steal(clock, much);
                due = now.steal(clock, much);
                break;
            default:
                int hours = 1 + lots.nextInt(lots.nextBoolean() ? 3 : 24);
                got = x.hours(hours);
                now = now.behind(hours);
                due = now.hour;
                break;
        }
        CHECK.due("a deed " + when, got, due);
        if (due >= 0) {
            ahead.push(then);
        }
    }

    private void questions() {
        for (int p = 0; p < now.places; p++) {
            for (int q = 0; q < now.places; q++) {
                CHECK.due("way " + p + " to " + q + " " + when, x.way(p, q), now.far(p, q));
            }
        }
        for (int c = 0; c < now.clocks; c++) {
            int hours = lots.nextInt(lots.nextBoolean() ? 20 : 241);
            CHECK.due("shows(" + c + ", " + hours + ") " + when, x.shows(c, hours), now.behind(hours).shows[c]);
            CHECK.due("stops(" + c + ") " + when, x.stops(c), now.stops(c));
            caravan(c);
            theft(c);
        }
        int hours = 1 + lots.nextInt(lots.nextBoolean() ? 20 : 240);
        CHECK.due("late(" + hours + ", NONE) " + when, x.late(hours, -1), now.late(hours, false));
        CHECK.due("late(" + hours + ", 0) " + when, x.late(hours, 0), now.late(hours, true));
        int water = lots.nextInt(lots.nextBoolean() ? 100 : 600);
        CHECK.dueRow("siege(" + water + ") " + when, new int[] {x.siege(water, 0), x.siege(water, 1), x.siege(water, 2)},
                first.siege(water));
        for (int p = 0; p < now.people; p++) {
            round(p);
        }
        cups();
        sell();
        int seed = lots.nextInt(10000);
        int many = 1 + lots.nextInt(lots.nextBoolean() ? 30 : 400);
        CHECK.dueRow("years(" + seed + ", " + many + ") " + when, new int[] {x.years(seed, many, 0), x.years(seed, many, 1),
            x.years(seed, many, 2)}, now.years(seed, many));
    }

    private void caravan(int c) {
        int legs = 1 + lots.nextInt(lots.nextInt(4) == 0 ? 12 : 5);
        int chance = lots.nextInt(11);
        int millionths = lots.nextInt(1000001);
        CHECK.due("caravan(" + c + ", " + legs + ", " + chance + ", " + millionths + ") " + when,
                x.caravan(c, legs, chance, millionths), first.caravan(c, legs, chance, millionths));
    }

    private void theft(int c) {
        int hours = 1 + lots.nextInt(lots.nextInt(8) == 0 ? 20 : 7);
        int shown = Math.max(0, hours - 1 - lots.nextInt(4)) / (first.kind[c] == 2 ? 2 : 1);
        CHECK.dueRow("theft(" + c + ", " + shown + ", " + hours + ") " + when, new int[] {x.theft(c, shown, hours, 0),
            x.theft(c, shown, hours, 1), x.theft(c, shown, hours, 2)}, first.theft(c, shown, hours));
    }

    private void round(int person) {
        int[] due = now.round(person);
        for (int what = 0; what <= 6; what++) {
            CHECK.due("round(" + person + ", " + what + ") " + when, x.round(person, what),
                    due == null || what >= due.length ? -1 : due[what]);
        }
    }

    private void cups() {
        int hours = 1 + lots.nextInt(8);
        int holds = 1 + lots.nextInt(12 * hours);
        int[] due = now.cups(holds, hours);
        CHECK.dueRow("cups(" + holds + ", " + hours + ") " + when, new int[] {x.cups(holds, hours, 0), x.cups(holds, hours, 1)},
                due == null ? new int[] {-1, -1} : due);
    }

    private void sell() {
        int one = lots.nextInt(now.places + 1);
        int other = lots.nextInt(now.places + 1);
        boolean can = one < now.places && other < now.places && one != other;
        List<Integer> due = can ? now.rests(one, other) : List.of();
        CHECK.due("rests(" + one + ", " + other + ", NONE) " + when, Check.rests(x, one, other, -1),
                can ? due.size() : Check.THROWN);
        for (int i = 0; i <= due.size(); i++) {
            CHECK.due("rests(" + one + ", " + other + ", " + i + ") " + when, Check.rests(x, one, other, i),
                    i < due.size() ? due.get(i) : Check.THROWN);
        }
    }

    /** DAYS of any lines whose NAMES are told. */
    private void judged() {
        StringBuilder text = new StringBuilder();
        Model then = first.copy();
        int[] due = {-1, -1, 0};
        int lines = lots.nextInt(41);
        for (int line = 0; line < lines; line++) {
            int who = now.people == 0 ? 0 : lots.nextInt(now.people);
            int clock = now.clocks == 0 ? 0 : lots.nextInt(now.clocks);
            int place = now.places == 0 ? 0 : lots.nextInt(now.places);
            int much = 1 + lots.nextInt(lots.nextBoolean() ? 3 : 24);
            char person = (char) ('l' + who);
            int sort = lots.nextInt(5);
            boolean can = true;
            if (sort == 0 && now.people > 0) {
                text.append("draw ").append(person).append(' ').append(much).append(';');
                can = then.draw(who, much) >= 0;
            } else if (sort == 1 && now.people > 0 && now.clocks > 0) {
                text.append("pour ").append(person).append(' ').append((char) ('f' + clock)).append(' ').append(much).append(';');
                can = then.pour(who, clock, much) >= 0;
            } else if (sort == 2 && now.people > 0) {
                text.append("go ").append(person).append(' ').append((char) ('a' + place)).append(';');
                can = then.go(who, place) >= 0;
            } else if (sort == 3 && now.clocks > 0) {
                text.append("steal ").append((char) ('f' + clock)).append(' ').append(much).append(';');
                can = then.steal(clock, much) >= 0;
            } else {
                text.append("hour ").append(much).append(';');
                then = then.behind(much);
            }
            due[0] = can || due[0] >= 0 ? due[0] : line;
            for (int w = 0; w < then.works; w++) {
                due[1] = then.done[w] > 1 && due[1] < 0 ? line : due[1];
            }
        }
        due[2] = then.paid();
        CHECK.due("days() of " + text, Check.readDays(x, text.toString()), 0);
        CHECK.dueRow("judged " + text + " " + when, new int[] {x.judged(0), x.judged(1), x.judged(2)}, due);
        CHECK.due("lines of " + text, x.count(8), lines);
    }
}
