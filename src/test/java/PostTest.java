/** Promise 3: a POST is read, and is the POST from then on. */
public final class PostTest {
    public static void main(String[] args) {
        Check check = new Check();
        lines(check);
        laterHeatsTellOver(check);
        namesLikeFacts(check);
        blanksWhereOneLikes(check);
        allThatIsAllowed(check);
        beginsAnew(check);
        staysWithFault(check);
        nothingIsLeft(check);
        check.end();
    }

    private static void lines(Check check) {
        ThirstHours x = check.withPost("place a well 17;place b well 0;way a b 4;"
                + "clock c plain at b holds 9 has 8 sips 7;person e at b sips 3 has 21;"
                + "work w by e clock c hour 12 pays 5;heat 0 to 0 6;");
        check.dueRow("count", new int[] {x.count(0), x.count(1), x.count(2), x.count(3), x.count(4)}, 2, 1, 1, 1, 1);
        check.dueRow("wells", new int[] {x.well(0), x.well(1)}, 17, 0);
        check.dueRow("timer", new int[] {x.timer(0, 0), x.timer(0, 1), x.timer(0, 2), x.timer(0, 3), x.timer(0, 4),
            x.timer(0, 5), x.timer(0, 6), x.timer(0, 7)}, 0, 1, 9, 8, 7, 0, 0, 13);
        check.dueRow("person", new int[] {x.person(0, 0), x.person(0, 1), x.person(0, 2), x.person(0, 3)}, 1, 3, 21, 0);
        check.dueRow("work", new int[] {x.work(0, 0), x.work(0, 1), x.work(0, 2), x.work(0, 3), x.work(0, 4)},
                0, 0, 12, 5, 0);
    }

    private static void laterHeatsTellOver(Check check) {
        ThirstHours x = check.withPost("place a well 0;clock c plain at a holds 9 has 9 sips 0;"
                + "heat 0 to 23 1;heat 2 to 4 7;heat 3 to 3 0;heat 23 to 23 9;");
        int[] heats = new int[25];
        for (int h = 0; h < 25; h++) {
            heats[h] = x.timer(0, 7);
            x.hours(1);
        }
        check.dueRow("heat", heats, 1, 1, 7, 0, 7, 1, 1, 1, 1, 1, 1, 1, 1, 1, 1, 1, 1, 1, 1, 1, 1, 1, 1, 9, 1);
    }

    private static void namesLikeFacts(Check check) {
        ThirstHours x = check.withPost("place base well 1;place hot well 2;way base hot 3;"
                + "clock kind old at hot holds 5 has 5 sips 4;person shown at base sips 1 has 1;"
                + "thirst base*kind;place eightlet well 8;");
        check.due("THIRST by the facts", x.timer(0, 7), 4);
        check.due("well", x.well(2), 8);
    }

    private static void blanksWhereOneLikes(Check check) {
        ThirstHours x = check.withPost("\n place a  well\n12 ;place b well 0003;way a b 2;heat 0to 5 3;"
                + "clock c dew at a holds 9has 2sips 1;thirst(base+1)*2\n; \n");
        check.due("well", x.well(0), 12);
        check.due("a NUMBER with noughts", x.well(1), 3);
        check.due("a letter right behind a NUMBER", x.timer(0, 3), 2);
        check.due("THIRST", x.timer(0, 7), 4);
        x = check.withPost("place a well5;");
        check.due("a NUMBER right behind a WORD", x.well(0), 5);
    }

    private static void allThatIsAllowed(Check check) {
        ThirstHours x = check.withPost("place a well 9999;place b well 0;place c well 0;place d well 0;place e well 0;"
                + "way a b 1;way c a 9;way a d 1;way e a 1;way b c 1;way b d 1;way e b 1;way c d 1;way c e 1;way d e 1;"
                + "clock f plain at a holds 999 has 999 sips 9;clock g old at b holds 1 has 0 sips 0;"
                + "clock h milk at c holds 1 has 1 sips 0;clock i dew at d holds 1 has 1 sips 0;"
                + "clock j plain at e holds 1 has 1 sips 0;clock k plain at e holds 1 has 1 sips 0;"
                + "person l at a sips 9 has 999;person m at a sips 0 has 0;person n at a sips 0 has 0;"
                + "person o at e sips 0 has 0;work p by l clock f hour 99 pays 99;work q by l clock f hour 1 pays 0;"
                + "work r by m clock g hour 1 pays 0;work s by n clock h hour 1 pays 0;"
                + "work t by o clock i hour 1 pays 0;work u by o clock k hour 1 pays 0;");
        check.dueRow("count", new int[] {x.count(0), x.count(1), x.count(2), x.count(3), x.count(4)}, 5, 10, 6, 4, 6);
        check.dueRow("kinds", new int[] {x.timer(0, 0), x.timer(1, 0), x.timer(2, 0), x.timer(3, 0)}, 0, 1, 2, 3);
        check.due("sips in all", x.count(13), 9999 + 999 + 4 + 999);
        check.due("the last work's PERSON", x.work(5, 0), 3);
        check.due("the last work's CLOCK", x.work(5, 1), 5);
    }

    private static final String SMALL = "place a well 50;place b well 5;way a b 1;"
            + "clock c plain at a holds 30 has 20 sips 1;person e at a sips 2 has 3;work w by e clock c hour 1 pays 9;";

    private static void beginsAnew(Check check) {
        ThirstHours x = check.withPost(SMALL);
        x.hours(3);
        x.draw(0, 5);
        x.say(0, 3, 1);
        x.tell(1, 1);
        x.mark(2, false);
        Check.readDays(x, "hour 1;");
        check.due("post again", Check.readPost(x, SMALL), 0);
        check.dueRow("count 5 to 13", new int[] {x.count(5), x.count(6), x.count(7), x.count(8), x.count(9), x.count(10),
            x.count(11), x.count(12), x.count(13)}, 0, 0, 0, 0, 0, 0, 0, 0, 78);
        check.due("shows", x.timer(0, 5), 0);
        check.due("DRY", x.person(0, 3), 0);
        check.due("done", x.work(0, 4), 0);
        check.due("no MARK", x.mark(2, true), false);
        check.due("nothing to undo", x.undo(), false);
        check.due("a smaller POST", Check.readPost(x, "place z well 1;"), 0);
        check.dueRow("count", new int[] {x.count(0), x.count(1), x.count(2), x.count(3), x.count(4)}, 1, 0, 0, 0, 0);
        check.due("an old NAME is gone", Check.readDays(x, "draw e 1;"), 5 * 16 + 2);
        check.due("nothing at all", x.post(), 0);
        check.due("PLACES", x.count(0), 0);
        check.due("heat and thirst are forgotten", Check.readPost(x,
                "place a well 0;clock c plain at a holds 9 has 9 sips 3;heat 0 to 23 5;thirst 50;"), 0);
        check.due("heat and thirst are forgotten", Check.readPost(x,
                "place a well 0;clock c plain at a holds 9 has 9 sips 3;"), 0);
        check.due("THIRST", x.timer(0, 7), 3);
    }

    /** What was told in POSTs before, good or faulty, is not told in a later one. */
    private static void nothingIsLeft(Check check) {
        String rich = "place a well 5;place b well 5;place c well 5;place d well 5;way a b 1;way b c 1;way a c 9;"
                + "clock k milk at b holds 9 has 9 sips 9;person e at b sips 9 has 9;work w by e clock k hour 1 pays 1;"
                + "heat 0 to 23 9;thirst 7;";
        String poor = "place a well 1;place b well 2;clock k old at a holds 8 has 7 sips 6;";
        ThirstHours x = new ThirstHours();
        for (int i = 0; i < 3; i++) {
            check.due("rich", Check.readPost(x, rich), 0);
            check.due("rich again", Check.readPost(x, rich), 0);
            check.due("rich with a FAULT", Check.readPost(x, rich + "#"), rich.length() * 16 + 1);
            check.due("poor", Check.readPost(x, poor), 0);
            check.due("no way", x.way(0, 1), -1);
            check.due("THIRST", x.timer(0, 7), 6);
            check.due("an old NAME", Check.readDays(x, "go e a;"), 3 * 16 + 2);
            check.due("rich", Check.readPost(x, rich), 0);
            check.due("poor and a way", Check.readPost(x, poor + "way b a 3;place c well 3;thirst base+1;"), 0);
            check.dueRow("ways", new int[] {x.way(0, 1), x.way(0, 2), x.way(1, 2)}, 3, -1, -1);
            check.due("THIRST", x.timer(0, 7), 7);
            for (int k = 0; k < 3; k++) {
                check.due("a longer law", Check.readPost(x, poor + "thirst not not not not base+1;"), 0);
                check.due("THIRST", x.timer(0, 7), 2);
            }
            for (int k = 0; k < 3; k++) {
                check.due("a shorter law", Check.readPost(x, poor + "thirst base;"), 0);
                check.due("THIRST", x.timer(0, 7), 6);
            }
        }
    }

    private static void staysWithFault(Check check) {
        ThirstHours x = check.withPost(SMALL);
        x.hours(3);
        x.say(0, 3, 1);
        x.tell(1, 1);
        x.mark(2, false);
        Check.readDays(x, "hour 1;");
        String faulty = "place q well 1;clock r milk at q holds 1 has 1 sips 1;heat 0 to 23 9;thirst 7;way q ";
        check.due("a POST with a FAULT", Check.readPost(x, faulty + "q 1;"), faulty.length() * 16 + 3);
        check.dueRow("count", new int[] {x.count(0), x.count(1), x.count(2), x.count(3), x.count(4), x.count(5),
            x.count(6), x.count(8), x.count(9), x.count(10), x.count(11), x.count(12)},
                2, 1, 1, 1, 1, 3, 1, 1, 1, 1, 1, 0);
        check.due("KIND", x.timer(0, 0), 0);
        check.due("THIRST", x.timer(0, 7), 1);
        check.due("the MARK", x.mark(2, true), true);
        check.due("NAMES", Check.readDays(x, "draw e 1;"), 0);
    }
}
