/** All promises on a POST that has as much of all as can be told. */
public final class FullPostTest {
    private static final Check CHECK = new Check();
    private static final String POST = "place a well 900;place b well 40;place c well 300;place d well 7;place e well 9999;"
            + "way a b 1;way a c 2;way a d 3;way a e 4;way b c 5;way b d 6;way b e 7;way c d 8;way c e 9;way d e 1;"
            + "clock f plain at a holds 99 has 50 sips 3;clock g old at b holds 60 has 60 sips 2;"
            + "clock h milk at c holds 80 has 33 sips 4;clock i dew at d holds 12 has 5 sips 1;"
            + "clock j plain at e holds 500 has 200 sips 5;clock k old at e holds 9 has 9 sips 0;"
            + "person l at a sips 2 has 60;person m at b sips 1 has 9;person n at c sips 3 has 30;person o at e sips 9 has 17;"
            + "work p by l clock f hour 6 pays 12;work q by m clock g hour 9 pays 20;work r by n clock h hour 4 pays 9;"
            + "work s by l clock i hour 12 pays 31;work t by n clock j hour 8 pays 15;work u by o clock k hour 2 pays 50;"
            + "heat 8 to 17 2;";

    public static void main(String[] args) {
        ThirstHours x = CHECK.withPost(POST);
        ahead(x);
        choices(x);
        byHand(x);
        CHECK.end();
    }

    private static void ahead(ThirstHours x) {
        CHECK.dueRow("stops", new int[] {x.stops(0), x.stops(1), x.stops(2), x.stops(3), x.stops(4), x.stops(5)},
                13, 15, 13, 9, 34, 8);
        CHECK.dueRow("shows", new int[] {x.shows(0, 9), x.shows(1, 9), x.shows(2, 9), x.shows(3, 9), x.shows(4, 9),
            x.shows(5, 9)}, 9, 9, 4, 9, 9, 8);
        CHECK.due("late(24, NONE)", x.late(24, -1), 0b100100);
        CHECK.due("late(240, NONE)", x.late(240, -1), 0b101100);
        CHECK.due("late(24, 0)", x.late(24, 0), 5);
        CHECK.due("years still", x.years(1, 1, 2), 0);
        CHECK.due("years DRY", x.years(1, 20, 1), 11 + 10 + 19);
    }

    private static void choices(ThirstHours x) {
        CHECK.due("the most in a siege", x.siege(9999, 0), 12 + 20 + 31 + 15 + 50);
        CHECK.dueRow("siege", new int[] {x.siege(17, 0), x.siege(18, 0), x.siege(18, 1), x.siege(18, 2)}, 0, 50, 32, 8);
        CHECK.dueRow("cups of an hour", new int[] {x.cups(13, 1, 0), x.cups(13, 1, 1), x.cups(12, 1, 0), x.cups(12, 1, 1),
            x.cups(4, 1, 0)}, 1, 63, 2, 0b101111, -1);
        int[] order = new int[7];
        for (int i = 0; i < 7; i++) {
            order[i] = x.round(0, i);
        }
        CHECK.dueRow("round", order, 12, 0, 1, 3, 4, 2, -1);
    }

    private static void byHand(ThirstHours x) {
        CHECK.due("hours", x.hours(24), 24);
        CHECK.dueRow("DRY", new int[] {x.person(0, 3), x.person(1, 3), x.person(2, 3), x.person(3, 3)}, 0, 15, 14, 23);
        CHECK.dueRow("works", new int[] {x.work(0, 4), x.work(1, 4), x.work(2, 4), x.work(3, 4), x.work(4, 4), x.work(5, 4)},
                1, 1, 2, 0, 1, 3);
        CHECK.due("DAYS", Check.readDays(x, "hour 24;go o a;go l e;draw l 9;pour l k 9;steal k 1;"), 0);
        CHECK.dueRow("judged", new int[] {x.judged(0), x.judged(1), x.judged(2)}, -1, 0, 47);
        CHECK.due("undo", x.undo(), true);
        CHECK.due("sips in all", x.count(13), 900 + 40 + 300 + 7 + 9999 + 50 + 60 + 33 + 5 + 200 + 9 + 60 + 9 + 30 + 17);
    }
}
