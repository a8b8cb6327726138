/** The edges of promise 3: what the lines of a POST may tell, a sentence each. */
public final class PostEdgeTest {
    private static final Check CHECK = new Check();
    private static final String HERE = "place a well 9;place b well 9;clock c old at a holds 9 has 1 sips 1;"
            + "person e at a sips 1 has 1;work w by e clock c hour 1 pays 1;";

    private static ThirstHours here(String more) {
        return CHECK.withPost(HERE + more);
    }

    /** The FAULT is at the sign ^, which is taken out of the text. */
    private static void bad(int kind, String more) {
        String text = HERE + more;
        int at = text.indexOf('^');
        String told = text.substring(0, at) + text.substring(at + 1);
        CHECK.due("post() of " + text, Check.readPost(new ThirstHours(), told), kind + 16 * at);
    }

    public static void main(String[] args) {
        noLines();
        anyNumberOfLines();
        fivePlaces();
        wells();
        wayHours();
        wayPlaces();
        eachPairOnce();
        sixClocks();
        kinds();
        clockPlace();
        holds();
        has();
        clockSips();
        fourPeople();
        personPlace();
        personSips();
        personHas();
        sixWorks();
        workOfTold();
        workHour();
        workPays();
        heatHours();
        heatWidth();
        heatDegrees();
        heatsOver();
        thirstOnce();
        keptWords();
        factsAreNames();
        noTwoAlike();
        lastNamesAreTold();
        numberedAsTold();
        postsInTurn();
        CHECK.end();
    }

    /** "any number of": none, too. */
    private static void noLines() {
        ThirstHours x = CHECK.withPost("");
        for (int what = 0; what <= 13; what++) {
            CHECK.due("count(" + what + ")", x.count(what), 0);
        }
    }

    /** "any number of": as many as the TAPE has room for. */
    private static void anyNumberOfLines() {
        ThirstHours x = CHECK.withPost("place a well 0;clock c plain at a holds 1 has 0 sips 0;" + "heat 0 to 0 9;".repeat(66)
                + "heat 0 to 0 8;");
        CHECK.due("the last of 67 heats", x.timer(0, 7), 8);
        CHECK.due("lines in any order", Check.readPost(new ThirstHours(), "thirst 1;heat 0 to 0 1;place a well 1;"
                + "person e at a sips 1 has 1;clock c dew at a holds 1 has 1 sips 1;place b well 1;heat 1 to 1 1;"
                + "work w by e clock c hour 1 pays 1;way b a 1;place d well 1;way d a 1;"), 0);
    }

    private static String places(int many) {
        StringBuilder text = new StringBuilder();
        for (int i = 0; i < many; i++) {
            text.append("place ").append((char) ('m' + i)).append(" well ").append(i + 1).append(';');
        }
        return text.toString();
    }

    /** "place: 5 at most"; 5: "the words place of a sixth". */
    private static void fivePlaces() {
        CHECK.due("four", CHECK.withPost(places(4)).count(0), 4);
        CHECK.due("five", CHECK.withPost(places(5)).count(0), 5);
        ThirstHours x = here(places(3));
        CHECK.due("five", x.count(0), 5);
        CHECK.due("the fifth", x.well(4), 3);
        bad(5, places(3) + "^place z well 1;");
        bad(5, places(3) + "^place");
        bad(5, places(3) + "^place place");
    }

    /** "well: sips in it, 0 to 9999". */
    private static void wells() {
        CHECK.due("well 0", here("place z well 0;").well(2), 0);
        CHECK.due("well 1", here("place z well 1;").well(2), 1);
        CHECK.due("well 9999", here("place z well 9999;").well(2), 9999);
        bad(1, "place z well ^10000;");
        bad(1, "place z well ^-1;");
    }

    /** "1 to 9 hours". */
    private static void wayHours() {
        CHECK.due("1 hour", here("way a b 1;").way(0, 1), 1);
        CHECK.due("9 hours", here("way a b 9;").way(0, 1), 9);
        bad(4, "way a b ^0;");
        bad(4, "way a b ^10;");
        bad(4, "way a b ^9999;");
    }

    /** "way: two PLACES told, not the same". */
    private static void wayPlaces() {
        CHECK.due("ways", here("way a b 1;").count(1), 1);
        bad(2, "way ^z b 1;");
        bad(2, "way a ^z 1;");
        bad(2, "way ^z z 1;");
        bad(2, "way ^c b 1;");
        bad(2, "way a ^c 1;");
        bad(2, "way a ^e 1;");
        bad(2, "way a ^w 1;");
        bad(2, "way a ^z 1;place z well 1;");
        bad(3, "way a ^a 1;");
        bad(3, "way b ^b 1;");
    }

    /** "each pair once", whichever is told first. */
    private static void eachPairOnce() {
        bad(3, "way a b 1;way a ^b 1;");
        bad(3, "way a b 1;way b ^a 1;");
        bad(3, "way b a 9;way a ^b 8;");
        ThirstHours x = here(places(3) + "way a b 1;way m a 1;way a n 1;way o a 1;way b m 1;way n b 1;way b o 1;way m n 1;"
                + "way o m 1;way n o 1;");
        CHECK.due("all pairs of five", x.count(1), 10);
        bad(3, places(3) + "way a b 1;way m a 1;way a n 1;way o a 1;way b m 1;way n b 1;way b o 1;way m n 1;"
                + "way o m 1;way n o 1;way o ^n 1;");
    }

    private static String clocks(int many) {
        StringBuilder text = new StringBuilder();
        for (int i = 0; i < many; i++) {
            text.append("clock ").append((char) ('m' + i)).append(" old at a holds 9 has ").append(i).append(" sips 1;");
        }
        return text.toString();
    }

    /** "clock: 6 at most"; 5: "clock .. of a seventh". */
    private static void sixClocks() {
        CHECK.due("five", here(clocks(4)).count(2), 5);
        ThirstHours x = here(clocks(5));
        CHECK.due("six", x.count(2), 6);
        CHECK.due("the sixth", x.timer(5, 3), 4);
        bad(5, clocks(5) + "^clock z old at a holds 9 has 9 sips 1;");
        bad(5, clocks(5) + "^clock");
        CHECK.due("clock within work is no seventh", here(clocks(5) + "work z by e clock q hour 1 pays 1;").work(1, 1), 5);
    }

    /** "KIND: plain, old, milk, dew". */
    private static void kinds() {
        String[] kinds = {"plain", "old", "milk", "dew"};
        for (int i = 0; i < kinds.length; i++) {
            CHECK.due(kinds[i], here("clock z " + kinds[i] + " at a holds 1 has 1 sips 1;").timer(1, 0), i);
        }
        for (String other : new String[] {"odd", "z", "kind", "place", "plai", "plains", "1", ";"}) {
            bad(1, "clock z ^" + other + " at a holds 1 has 1 sips 1;");
        }
    }

    /** "clock: .. at a PLACE told". */
    private static void clockPlace() {
        CHECK.due("at the first", here("clock z old at a holds 1 has 1 sips 1;").timer(1, 1), 0);
        CHECK.due("at the last", here("clock z old at b holds 1 has 1 sips 1;").timer(1, 1), 1);
        bad(2, "clock z old at ^z holds 1 has 1 sips 1;");
        bad(2, "clock z old at ^y holds 1 has 1 sips 1;place y well 1;");
        bad(2, "clock z old at ^c holds 1 has 1 sips 1;");
        bad(2, "clock z old at ^e holds 1 has 1 sips 1;");
    }

    /** "holds 1 to 999". */
    private static void holds() {
        CHECK.due("holds 1", here("clock z old at a holds 1 has 1 sips 1;").timer(1, 2), 1);
        CHECK.due("holds 999", here("clock z old at a holds 999 has 1 sips 1;").timer(1, 2), 999);
        bad(4, "clock z old at a holds ^0 has 0 sips 1;");
        bad(4, "clock z old at a holds ^1000 has 0 sips 1;");
    }

    /** "has 0 to that". */
    private static void has() {
        CHECK.due("has 0", here("clock z old at a holds 1 has 0 sips 1;").timer(1, 3), 0);
        CHECK.due("has 1 of 1", here("clock z old at a holds 1 has 1 sips 1;").timer(1, 3), 1);
        CHECK.due("has 50 of 50", here("clock z old at a holds 50 has 50 sips 1;").timer(1, 3), 50);
        CHECK.due("has 999 of 999", here("clock z old at a holds 999 has 999 sips 1;").timer(1, 3), 999);
        bad(4, "clock z old at a holds 1 has ^2 sips 1;");
        bad(4, "clock z old at a holds 50 has ^51 sips 1;");
        bad(4, "clock z old at a holds 999 has ^1000 sips 1;");
    }

    /** "clock: .. sips 0 to 9". */
    private static void clockSips() {
        CHECK.due("sips 0", here("clock z old at a holds 1 has 1 sips 0;").timer(1, 4), 0);
        CHECK.due("sips 9", here("clock z old at a holds 1 has 1 sips 9;").timer(1, 4), 9);
        bad(4, "clock z old at a holds 1 has 1 sips ^10;");
    }

    private static String people(int many) {
        StringBuilder text = new StringBuilder();
        for (int i = 0; i < many; i++) {
            text.append("person ").append((char) ('m' + i)).append(" at a sips 1 has ").append(i).append(';');
        }
        return text.toString();
    }

    /** "person: 4 at most"; 5: "person of a fifth". */
    private static void fourPeople() {
        CHECK.due("three", here(people(2)).count(3), 3);
        ThirstHours x = here(people(3));
        CHECK.due("four", x.count(3), 4);
        CHECK.due("the fourth", x.person(3, 2), 2);
        bad(5, people(3) + "^person z at a sips 1 has 1;");
        bad(5, people(3) + "^person");
    }

    /** A person is at a PLACE told. */
    private static void personPlace() {
        CHECK.due("at the last", here("person z at b sips 1 has 1;").person(1, 0), 1);
        bad(2, "person z at ^z sips 1 has 1;");
        bad(2, "person z at ^y sips 1 has 1;place y well 1;");
        bad(2, "person z at ^c sips 1 has 1;");
    }

    /** "person: .. sips 0 to 9". */
    private static void personSips() {
        CHECK.due("sips 0", here("person z at a sips 0 has 1;").person(1, 1), 0);
        CHECK.due("sips 9", here("person z at a sips 9 has 1;").person(1, 1), 9);
        bad(4, "person z at a sips ^10 has 1;");
    }

    /** "person: .. has 0 to 999". */
    private static void personHas() {
        CHECK.due("has 0", here("person z at a sips 1 has 0;").person(1, 2), 0);
        CHECK.due("has 999", here("person z at a sips 1 has 999;").person(1, 2), 999);
        bad(4, "person z at a sips 1 has ^1000;");
    }

    private static String works(int many) {
        StringBuilder text = new StringBuilder();
        for (int i = 0; i < many; i++) {
            text.append("work ").append((char) ('m' + i)).append(" by e clock c hour 1 pays ").append(i).append(';');
        }
        return text.toString();
    }

    /** "work: 6 at most"; 5: "work of a seventh". */
    private static void sixWorks() {
        CHECK.due("five", here(works(4)).count(4), 5);
        ThirstHours x = here(works(5));
        CHECK.due("six", x.count(4), 6);
        CHECK.due("the sixth", x.work(5, 3), 4);
        bad(5, works(5) + "^work z by e clock c hour 1 pays 1;");
        bad(5, works(5) + "^work");
    }

    /** "by a PERSON told, by a CLOCK told". */
    private static void workOfTold() {
        ThirstHours x = here("person f at a sips 1 has 1;clock d old at a holds 1 has 1 sips 1;"
                + "work y by f clock c hour 1 pays 1;work z by e clock d hour 1 pays 1;");
        CHECK.dueRow("works", new int[] {x.work(1, 0), x.work(1, 1), x.work(2, 0), x.work(2, 1)}, 1, 0, 0, 1);
        bad(2, "work z by ^y clock c hour 1 pays 1;");
        bad(2, "work z by ^y clock c hour 1 pays 1;person y at a sips 1 has 1;");
        bad(2, "work z by ^z clock c hour 1 pays 1;");
        bad(2, "work z by ^c clock c hour 1 pays 1;");
        bad(2, "work z by ^a clock c hour 1 pays 1;");
        bad(2, "work z by e clock ^y hour 1 pays 1;");
        bad(2, "work z by e clock ^y hour 1 pays 1;clock y old at a holds 1 has 1 sips 1;");
        bad(2, "work z by e clock ^e hour 1 pays 1;");
        bad(2, "work z by e clock ^a hour 1 pays 1;");
        bad(2, "work z by e clock ^w hour 1 pays 1;");
    }

    /** "hour 1 to 99". */
    private static void workHour() {
        CHECK.due("hour 1", here("work z by e clock c hour 1 pays 1;").work(1, 2), 1);
        CHECK.due("hour 99", here("work z by e clock c hour 99 pays 1;").work(1, 2), 99);
        bad(4, "work z by e clock c hour ^0 pays 1;");
        bad(4, "work z by e clock c hour ^100 pays 1;");
    }

    /** "pays 0 to 99". */
    private static void workPays() {
        CHECK.due("pays 0", here("work z by e clock c hour 1 pays 0;").work(1, 3), 0);
        CHECK.due("pays 99", here("work z by e clock c hour 1 pays 99;").work(1, 3), 99);
        bad(4, "work z by e clock c hour 1 pays ^100;");
    }

    /** What hot is in each hour of a day and one hour more. */
    private static void heats(String lines, String due) {
        ThirstHours x = CHECK.withPost("place a well 0;clock c plain at a holds 9 has 0 sips 0;thirst hot;" + lines);
        StringBuilder got = new StringBuilder();
        for (int h = 0; h <= 24; h++) {
            got.append(x.timer(0, 7));
            x.hours(1);
        }
        CHECK.due("heats by " + lines + " are " + got, got.toString().equals(due), true);
    }

    /** "heat: from an hour of the day (0 to 23) to another one". */
    private static void heatHours() {
        heats("heat 0 to 0 5;", "5000000000000000000000005");
        heats("heat 0 to 23 5;", "5555555555555555555555555");
        heats("heat 23 to 23 5;", "0000000000000000000000050");
        heats("heat 1 to 22 5;", "0555555555555555555555500");
        bad(4, "heat ^24 to 24 5;");
        bad(4, "heat 0 to ^24 5;");
        bad(4, "heat 23 to ^24 5;");
    }

    /** "to another one, no less". */
    private static void heatWidth() {
        heats("heat 7 to 7 5;", "0000000500000000000000000");
        heats("heat 7 to 8 5;", "0000000550000000000000000");
        bad(4, "heat 7 to ^6 5;");
        bad(4, "heat 1 to ^0 5;");
        bad(4, "heat 23 to ^22 5;");
    }

    /** "0 to 9". */
    private static void heatDegrees() {
        heats("heat 0 to 0 0;", "0000000000000000000000000");
        heats("heat 0 to 0 9;", "9000000000000000000000009");
        bad(4, "heat 0 to 0 ^10;");
    }

    /** "later lines tell over earlier ones; without any 0". */
    private static void heatsOver() {
        heats("", "0000000000000000000000000");
        heats("heat 2 to 6 9;heat 4 to 8 3;", "0099333330000000000000000");
        heats("heat 4 to 8 3;heat 2 to 6 9;", "0099999330000000000000000");
        heats("heat 4 to 8 3;heat 4 to 8 0;", "0000000000000000000000000");
    }

    /** "thirst: once"; 3: "thirst a second time"; without it base + hot. */
    private static void thirstOnce() {
        String clock = "place a well 0;clock c plain at a holds 9 has 0 sips 4;heat 0 to 0 3;";
        CHECK.due("without", CHECK.withPost(clock).timer(0, 7), 7);
        CHECK.due("once", CHECK.withPost(clock + "thirst 2;").timer(0, 7), 2);
        bad(3, "thirst 2;^thirst 2;");
        bad(3, "thirst 2;heat 0 to 0 1;^thirst");
        bad(3, "thirst 2;^thirst thirst");
    }

    private static final String[] KEPT = {"place", "way", "clock", "at", "holds", "has", "sips", "person", "work", "by",
        "hour", "pays", "heat", "to", "thirst", "pour", "draw", "go", "steal", "plain", "old", "milk", "dew", "not", "and",
        "or", "well"};

    /** "A NAME is another WORD than place, well, .. the KINDS, not, and, or". */
    private static void keptWords() {
        for (String kept : KEPT) {
            bad(1, "place ^" + kept + " well 1;");
            bad(1, "clock ^" + kept + " old at a holds 1 has 1 sips 1;");
            bad(1, "person ^" + kept + " at a sips 1 has 1;");
            bad(1, "work ^" + kept + " by e clock c hour 1 pays 1;");
            CHECK.due("a NAME like " + kept, here("place " + kept.charAt(0) + "zz" + " well 7;").well(2), 7);
        }
    }

    /** The facts are other WORDS. */
    private static void factsAreNames() {
        ThirstHours x = here("place base well 1;clock hot old at base holds 1 has 1 sips 1;"
                + "person kind at base sips 1 has 1;work shown by kind clock hot hour 1 pays 1;way base a 3;");
        CHECK.dueRow("told by the facts' WORDS", new int[] {x.timer(1, 1), x.person(1, 0), x.work(1, 0), x.work(1, 1),
            x.way(0, 2)}, 2, 2, 1, 1, 3);
    }

    /** "no two (PLACES, CLOCKS, PEOPLE, works) are alike". */
    private static void noTwoAlike() {
        for (String told : new String[] {"a", "b", "c", "e", "w"}) {
            bad(3, "place ^" + told + " well 1;");
            bad(3, "clock ^" + told + " old at a holds 1 has 1 sips 1;");
            bad(3, "person ^" + told + " at a sips 1 has 1;");
            bad(3, "work ^" + told + " by e clock c hour 1 pays 1;");
        }
        CHECK.due("nearly alike", here("place aa well 1;place aaa well 1;place ab well 1;").count(0), 5);
        ThirstHours x = here("");
        CHECK.due("told in the POST before", Check.readPost(x, HERE), 0);
        CHECK.due("told in another way", Check.readPost(x, "place w well 1;clock a old at w holds 1 has 1 sips 1;"
                + "person c at w sips 1 has 1;work e by c clock a hour 1 pays 1;"), 0);
    }

    /** The NAMES of the last that can be told are told, too. */
    private static void lastNamesAreTold() {
        String all = places(3) + clocks(5).replace("clock ", "clock c") + people(3).replace("person ", "person p")
                + works(5).replace("work ", "work w");
        CHECK.due("as many as can be", here(all).count(4), 6);
        bad(3, places(3) + "clock ^o old at a holds 1 has 1 sips 1;");
        bad(3, clocks(5) + "place ^q well 1;");
        bad(3, people(3) + "place ^o well 1;");
        bad(3, works(5) + "place ^q well 1;");
        bad(3, works(5) + "person ^q at a sips 1 has 1;");
        bad(3, works(5) + "clock ^q old at a holds 1 has 1 sips 1;");
    }

    /** A POST takes nothing over from those before it, on one object: NAMES, ways, heat, thirst. */
    private static void postsInTurn() {
        String all = HERE + places(3) + clocks(5).replace("clock ", "clock c") + people(3).replace("person ", "person p")
                + works(5).replace("work ", "work w");
        ThirstHours x = new ThirstHours();
        for (int i = 0; i < 4; i++) {
            CHECK.due("as many as can be, time " + i, Check.readPost(x, all), 0);
            CHECK.same("behind it", x, CHECK.withPost(all));
            Check.readPost(x, all);
        }
        String hot = HERE + "way a b 7;heat 0 to 23 9;thirst 50+hot;";
        String cold = HERE.replace("has 1 sips 1;person", "has 9 sips 3;person");
        for (int i = 0; i < 4; i++) {
            CHECK.due("a hot one", Check.readPost(x, hot), 0);
            CHECK.dueRow("hot", new int[] {x.timer(0, 7), x.way(0, 1), x.count(1)}, 59, 7, 1);
            for (int j = i; j >= 0; j--) {
                CHECK.due("a cold one", Check.readPost(x, cold), 0);
                CHECK.dueRow("cold", new int[] {x.way(0, 1), x.way(1, 0), x.count(1)}, -1, -1, 0);
                for (int h = 0; h < 24; h++) {
                    CHECK.due("cold in hour " + h, x.timer(0, 7), 3);
                    x.hours(1);
                }
            }
        }
    }

    /** "numbered as told", whatever is told between. */
    private static void numberedAsTold() {
        ThirstHours x = CHECK.withPost("place z well 1;person y at z sips 1 has 10;place b well 2;"
                + "clock x old at b holds 30 has 30 sips 1;place a well 3;person c at a sips 2 has 20;"
                + "clock d dew at a holds 40 has 40 sips 2;work v by c clock x hour 5 pays 1;"
                + "work u by y clock d hour 6 pays 2;");
        CHECK.dueRow("wells", new int[] {x.well(0), x.well(1), x.well(2)}, 1, 2, 3);
        CHECK.dueRow("CLOCKS", new int[] {x.timer(0, 1), x.timer(0, 3), x.timer(1, 1), x.timer(1, 3)}, 1, 30, 2, 40);
        CHECK.dueRow("PEOPLE", new int[] {x.person(0, 0), x.person(0, 2), x.person(1, 0), x.person(1, 2)}, 0, 10, 2, 20);
        CHECK.dueRow("works", new int[] {x.work(0, 0), x.work(0, 1), x.work(1, 0), x.work(1, 1)}, 1, 0, 0, 1);
    }
}
