import java.util.NoSuchElementException;
import java.util.Random;

/** Any calls with any arguments in any state: none throws but rests, and what can't be changes nothing. */
public final class AnyCallTest {
    private static final Check CHECK = new Check();
    private static final String WORDS = "place well way clock at holds has sips person work by hour pays heat to thirst"
            + " pour draw go steal plain old milk dew not and or base hot kind shown a b c d e f g 0 1 2 9 23 99 999 9999"
            + " ( ) < = + - * ; ; ; ; ( ( not #";
    private static final String POST = "place a well 90;place b well 900;place c well 0;way a b 2;way b c 9;"
            + "clock d plain at a holds 99 has 90 sips 2;clock e old at b holds 99 has 99 sips 1;"
            + "clock f milk at c holds 50 has 50 sips 3;clock g dew at a holds 9 has 3 sips 2;"
            + "person h at a sips 2 has 99;person i at b sips 1 has 20;person j at c sips 0 has 7;"
            + "work k by h clock d hour 6 pays 8;work l by i clock e hour 9 pays 20;work m by j clock g hour 3 pays 5;"
            + "heat 7 to 19 2;";

    private final Random lots;
    private final ThirstHours x = new ThirstHours();

    private AnyCallTest(long seed) {
        lots = new Random(seed);
    }

    public static void main(String[] args) {
        for (int seed = 0; seed < 300; seed++) {
            new AnyCallTest(seed).run();
        }
        CHECK.end();
    }

    private void run() {
        if (lots.nextInt(4) > 0) {
            CHECK.due("post", Check.readPost(x, POST + laws[lots.nextInt(laws.length)]), 0);
        }
        for (int call = 0; call < 400; call++) {
            int which = lots.nextInt(33);
            try {
                any(which);
            } catch (NoSuchElementException e) {
                CHECK.due("only rests throws", which, 28);
            } catch (RuntimeException e) {
                CHECK.due("call " + which + " throws " + e, 1, 0);
            }
            sound();
        }
    }

    private final String[] laws = {"", "thirst base;", "thirst base+hot-shown;", "thirst shown*9999*9999;",
        "thirst not(kind=2)*(base+hot) or shown<5;", "thirst (((1-shown)*99)*9999)*9999;", "thirst 0;", "thirst 9-shown;"};

    /** What must hold in every state. */
    private void sound() {
        for (int c = 0; c < x.count(2); c++) {
            CHECK.due("a CLOCK has what it can", x.timer(c, 3) >= 0 && x.timer(c, 3) <= x.timer(c, 2), true);
            CHECK.due("a CLOCK shows what it can", x.timer(c, 5) >= 0 && x.timer(c, 5) <= x.count(5), true);
            CHECK.due("THIRST", x.timer(c, 7) >= 0 && x.timer(c, 7) <= 99, true);
        }
        for (int p = 0; p < x.count(3); p++) {
            CHECK.due("a PERSON has what he can", x.person(p, 2) >= 0 && x.person(p, 2) <= 999, true);
        }
        CHECK.due("what can be undone", x.count(11) >= 0 && x.count(11) <= 16, true);
        CHECK.due("signs on the TAPE", x.count(12) >= 0 && x.count(12) <= 1000, true);
    }

    private int lot() {
        switch (lots.nextInt(12)) {
            case 0: return -1;
            case 1: return lots.nextInt();
            case 2: return lots.nextBoolean() ? Integer.MAX_VALUE : Integer.MIN_VALUE;
            case 3: return lots.nextInt(1200);
            case 4: return lots.nextInt(60);
            case 5: return lots.nextInt(24) + 1;
            default: return lots.nextInt(4);
        }
    }

    private void garbage() {
        String[] words = WORDS.split(" ");
        StringBuilder text = new StringBuilder();
        for (int i = lots.nextInt(60); i >= 0; i--) {
            text.append(words[lots.nextInt(words.length)]).append(lots.nextInt(5) > 0 ? " " : "");
        }
        Check.feed(x, text.toString());
    }

    private void any(int which) {
        switch (which) {
            case 0: x.feed(lots.nextLong(), lots.nextLong(), lots.nextLong()); break;
            case 1: garbage(); x.post(); break;
            case 2: garbage(); x.days(); break;
            case 3: x.timer(lot(), lot()); break;
            case 4: x.person(lot(), lot()); break;
            case 5: x.work(lot(), lot()); break;
            case 6: x.well(lot()); break;
            case 7: x.way(lot(), lot()); break;
            case 8: x.hours(lot()); break;
            case 9: kept(x.draw(lot(), lot()), 0); break;
            case 10: kept(x.pour(lot(), lot(), lot()), 0); break;
            case 11: x.go(lot(), lot()); break;
            case 12: x.steal(lot(), lot()); break;
            case 13: x.undo(); break;
            case 14: x.judged(lot()); break;
            case 15: x.shows(lot(), lot()); break;
            case 16: x.stops(lot()); break;
            case 17: x.late(lot(), lots.nextInt(4) - 2); break;
            case 18: x.siege(lot(), lot()); break;
            case 19: x.say(lot(), lot(), lot()); break;
            case 20: x.truth(lot()); break;
            case 21: x.round(lot(), lot()); break;
            case 22: x.caravan(lot(), lot(), lot(), lots.nextInt(1000001)); break;
            case 23: x.tell(lot(), lot()); break;
            case 24: x.laws(lot()); break;
            case 25: x.theft(lot(), lot(), lot(), lot()); break;
            case 26: x.cups(lot(), lot(), lot()); break;
            case 27: x.years(lot(), lot(), lot()); break;
            case 28: x.rests(lot(), lot(), lot()); break;
            case 29: x.mark(lot(), lots.nextBoolean()); break;
            case 30: x.count(lot()); break;
            case 31: Check.readDays(x, "hour 3;draw h 9;pour h d 3;go i c;steal e 4;hour 24;go h b;"); break;
            default: garbage(); break;
        }
    }

    private void kept(int answer, int least) {
        CHECK.due("an answer or NONE", answer >= least || answer == ThirstHours.NONE, true);
    }
}
