/** The edges of part 2's HOUR and of promises 5 to 10: a sentence each. */
public final class HourEdgeTest {
    private static final Check CHECK = new Check();

    private static ThirstHours clock(String told) {
        return CHECK.withPost("place a well 0;clock c " + told + ";");
    }

    /** What CLOCK 0 has, shows, and if it stood still. */
    private static void is(String when, ThirstHours x, int has, int shows, int still) {
        CHECK.dueRow("has, shows, still " + when, new int[] {x.timer(0, 3), x.timer(0, 5), x.timer(0, 6)}, has, shows, still);
    }

    private static void runs(ThirstHours x, int[][] due) {
        for (int h = 0; h < due.length; h++) {
            x.hours(1);
            is("behind hour " + h, x, due[h][0], due[h][1], due[h][2]);
        }
    }

    private static void pass(ThirstHours x, int many) {
        for (int left = many; left > 0; left -= 24) {
            x.hours(Math.min(left, 24));
        }
    }

    public static void main(String[] args) {
        justItsThirst();
        noThirst();
        dewBelowSix();
        dewNextDay();
        dewHoldsNoMore();
        dewAheadOfThirst();
        milkInOddHours();
        milkStandsStill();
        oldLeaksOne();
        oldStandsAndLeaks();
        dayEnds();
        drinksJustHis();
        drinksNothing();
        dryHoursCount();
        donesFirstTime();
        inTimeOrLate();
        missedWhenDry();
        missedOnce();
        onlyInTimePays();
        stillOfLastHour();
        hoursAllowed();
        thirstOfEach();
        timerEdges();
        personEdges();
        workEdges();
        wellEdges();
        wayEdges();
        CHECK.end();
    }

    /** "if it has so much, it drinks that and goes .. else it stands still (and drinks nothing)". */
    private static void justItsThirst() {
        runs(clock("plain at a holds 9 has 5 sips 5"), new int[][] {{0, 1, 0}, {0, 1, 1}});
        runs(clock("plain at a holds 9 has 4 sips 5"), new int[][] {{4, 0, 1}, {4, 0, 1}});
        runs(clock("plain at a holds 9 has 6 sips 5"), new int[][] {{1, 1, 0}, {1, 1, 1}});
        runs(clock("plain at a holds 99 has 99 sips 5;thirst 100"), new int[][] {{0, 1, 0}, {0, 1, 1}});
        runs(clock("plain at a holds 99 has 98 sips 5;thirst 100"), new int[][] {{98, 0, 1}});
    }

    /** A THIRST of 0 it has always. */
    private static void noThirst() {
        runs(clock("plain at a holds 9 has 0 sips 0"), new int[][] {{0, 1, 0}, {0, 2, 0}});
        runs(clock("plain at a holds 9 has 0 sips 0;thirst 0-5"), new int[][] {{0, 1, 0}, {0, 2, 0}});
        runs(clock("old at a holds 9 has 0 sips 0"), new int[][] {{0, 1, 0}, {0, 2, 0}});
    }

    /** "a dew one has one sip more, if the hour of the day is below 6". */
    private static void dewBelowSix() {
        ThirstHours x = clock("dew at a holds 99 has 0 sips 9;thirst 99");
        for (int h = 0; h < 24; h++) {
            x.hours(1);
            CHECK.due("has behind hour " + h, x.timer(0, 3), Math.min(h + 1, 6));
        }
        for (String kind : new String[] {"plain", "milk"}) {
            ThirstHours y = clock(kind + " at a holds 99 has 0 sips 9;thirst 99");
            y.hours(1);
            is("of a " + kind + " one", y, 0, 0, 1);
        }
    }

    /** The hour of the day is "the hours passed modulo 24". */
    private static void dewNextDay() {
        ThirstHours x = clock("dew at a holds 99 has 0 sips 9;thirst 99");
        pass(x, 24);
        int[] has = {6, 7, 8, 9, 10, 11, 12, 12, 12};
        for (int h = 0; h < has.length; h++) {
            CHECK.due("has behind hour " + (23 + h), x.timer(0, 3), has[h]);
            x.hours(1);
        }
        pass(x, 240 - x.count(5));
        CHECK.due("ten days", x.timer(0, 3), 60);
        x.hours(6);
        CHECK.due("and six hours", x.timer(0, 3), 66);
        x.hours(1);
        CHECK.due("and seven", x.timer(0, 3), 66);
    }

    /** "(no more than it holds)". */
    private static void dewHoldsNoMore() {
        runs(clock("dew at a holds 2 has 0 sips 9"), new int[][] {{1, 0, 1}, {2, 0, 1}, {2, 0, 1}});
        runs(clock("dew at a holds 1 has 1 sips 9"), new int[][] {{1, 0, 1}, {1, 0, 1}});
        runs(clock("dew at a holds 999 has 998 sips 0"), new int[][] {{999, 1, 0}, {999, 2, 0}});
    }

    /** The dew falls ahead of the drinking, and what it holds binds it then. */
    private static void dewAheadOfThirst() {
        runs(clock("dew at a holds 9 has 4 sips 5"), new int[][] {{0, 1, 0}, {1, 1, 1}});
        runs(clock("dew at a holds 9 has 3 sips 5"), new int[][] {{4, 0, 1}, {0, 1, 0}});
        runs(clock("dew at a holds 5 has 5 sips 5"), new int[][] {{0, 1, 0}});
        runs(clock("dew at a holds 4 has 4 sips 5"), new int[][] {{4, 0, 1}});
    }

    /** "it shows one more (a milk one only in hours passed that are odd)". */
    private static void milkInOddHours() {
        runs(clock("milk at a holds 99 has 99 sips 2"),
                new int[][] {{98, 0, 0}, {97, 1, 0}, {96, 1, 0}, {95, 2, 0}, {94, 2, 0}, {93, 3, 0}});
        ThirstHours x = clock("milk at a holds 99 has 99 sips 2");
        pass(x, 23);
        CHECK.due("behind 23 hours", x.timer(0, 5), 11);
        x.hours(1);
        CHECK.due("behind 24 hours", x.timer(0, 5), 12);
        x.hours(1);
        CHECK.due("behind 25 hours", x.timer(0, 5), 12);
    }

    /** It stands still by its half, in odd hours and others. */
    private static void milkStandsStill() {
        runs(clock("milk at a holds 9 has 3 sips 5"), new int[][] {{0, 0, 0}, {0, 0, 1}});
        runs(clock("milk at a holds 9 has 2 sips 5"), new int[][] {{2, 0, 1}, {2, 0, 1}});
        runs(clock("milk at a holds 9 has 6 sips 5"), new int[][] {{3, 0, 0}, {0, 1, 0}, {0, 1, 1}, {0, 1, 1}});
    }

    /** "then an old one leaks one sip, if it has one". */
    private static void oldLeaksOne() {
        runs(clock("old at a holds 9 has 5 sips 3"), new int[][] {{1, 1, 0}, {0, 1, 1}, {0, 1, 1}});
        runs(clock("old at a holds 9 has 4 sips 3"), new int[][] {{0, 1, 0}, {0, 1, 1}});
        runs(clock("old at a holds 9 has 3 sips 3"), new int[][] {{0, 1, 0}, {0, 1, 1}});
        runs(clock("old at a holds 9 has 2 sips 0"), new int[][] {{1, 1, 0}, {0, 2, 0}, {0, 3, 0}});
    }

    private static void oldStandsAndLeaks() {
        runs(clock("old at a holds 9 has 2 sips 3"), new int[][] {{1, 0, 1}, {0, 0, 1}, {0, 0, 1}});
        runs(clock("old at a holds 9 has 1 sips 3"), new int[][] {{0, 0, 1}, {0, 0, 1}});
        runs(clock("old at a holds 9 has 0 sips 3"), new int[][] {{0, 0, 1}});
    }

    /** "the one of the day is the hours passed modulo 24; its heat". */
    private static void dayEnds() {
        ThirstHours x = clock("plain at a holds 9 has 0 sips 0;heat 0 to 0 7;heat 23 to 23 5");
        pass(x, 22);
        CHECK.due("in hour 22", x.timer(0, 7), 0);
        x.hours(1);
        CHECK.due("in hour 23", x.timer(0, 7), 5);
        x.hours(1);
        CHECK.due("in hour 24", x.timer(0, 7), 7);
        x.hours(1);
        CHECK.due("in hour 25", x.timer(0, 7), 0);
        pass(x, 22);
        CHECK.due("in hour 47", x.timer(0, 7), 5);
        x.hours(1);
        CHECK.due("in hour 48", x.timer(0, 7), 7);
    }

    private static ThirstHours person(int sips, int has) {
        return CHECK.withPost("place a well 0;person e at a sips " + sips + " has " + has + ";");
    }

    /** "Then each PERSON drinks his sips if he has so much, else he is DRY in that hour." */
    private static void drinksJustHis() {
        int[][] due = {{5, 5, 0, 0}, {5, 4, 4, 1}, {5, 6, 1, 0}, {9, 999, 990, 0}, {9, 8, 8, 1}, {1, 0, 0, 1}, {1, 1, 0, 0}};
        for (int[] row : due) {
            ThirstHours x = person(row[0], row[1]);
            x.hours(1);
            CHECK.dueRow("one who drinks " + row[0] + " and has " + row[1], new int[] {x.person(0, 2), x.person(0, 3)},
                    row[2], row[3]);
        }
    }

    private static void drinksNothing() {
        ThirstHours x = person(0, 0);
        x.hours(24);
        CHECK.dueRow("who needs nothing", new int[] {x.person(0, 2), x.person(0, 3)}, 0, 0);
    }

    /** "hours in which he was DRY". */
    private static void dryHoursCount() {
        ThirstHours x = person(3, 7);
        int[] dry = {0, 0, 1, 2, 3};
        for (int h = 0; h < dry.length; h++) {
            x.hours(1);
            CHECK.due("DRY behind hour " + h, x.person(0, 3), dry[h]);
        }
        CHECK.due("he keeps what is too little", x.person(0, 2), 1);
    }

    private static ThirstHours work(String clock, int hour, String person) {
        return CHECK.withPost("place a well 99;clock c " + clock + ";person e at a " + person + ";work w by e clock c hour "
                + hour + " pays 8;");
    }

    /** "A work whose CLOCK shows its hour for the first time then is DONE". */
    private static void donesFirstTime() {
        ThirstHours x = work("milk at a holds 9 has 9 sips 2", 2, "sips 0 has 0");
        int[] done = {0, 0, 0, 2, 2, 2};
        for (int h = 0; h < done.length; h++) {
            x.hours(1);
            CHECK.due("by a milk one behind hour " + h, x.work(0, 4), done[h]);
        }
        ThirstHours y = work("plain at a holds 9 has 2 sips 1", 2, "sips 0 has 0");
        y.hours(1);
        CHECK.due("an hour ahead", y.work(0, 4), 0);
        y.hours(1);
        CHECK.due("then", y.work(0, 4), 1);
        y.hours(24);
        CHECK.due("and though it stands there", y.work(0, 4), 1);
        ThirstHours z = work("plain at a holds 9 has 1 sips 1", 2, "sips 0 has 0");
        z.hours(24);
        CHECK.due("never", z.work(0, 4), 0);
    }

    /** "in time if just so many hours have passed". */
    private static void inTimeOrLate() {
        ThirstHours x = work("plain at a holds 99 has 99 sips 1", 3, "sips 0 has 0");
        x.hours(3);
        CHECK.due("just then", x.work(0, 4), 1);
        ThirstHours y = work("dew at a holds 99 has 0 sips 2;thirst 2*(shown<1)", 3, "sips 0 has 0");
        y.hours(3);
        CHECK.dueRow("an hour too late ahead of it", new int[] {y.timer(0, 5), y.work(0, 4)}, 2, 0);
        y.hours(1);
        CHECK.dueRow("an hour too late", new int[] {y.timer(0, 5), y.work(0, 4)}, 3, 2);
        ThirstHours z = work("plain at a holds 999 has 99 sips 1", 99, "sips 0 has 0");
        pass(z, 98);
        CHECK.due("behind 98 hours", z.work(0, 4), 0);
        z.hours(1);
        CHECK.due("behind 99 hours", z.work(0, 4), 1);
    }

    /** "unless its PERSON was DRY in that hour (it is missed)". */
    private static void missedWhenDry() {
        int[][] due = {{5, 1}, {6, 1}, {4, 3}, {0, 3}};
        for (int[] row : due) {
            ThirstHours x = work("plain at a holds 9 has 9 sips 1", 1, "sips 5 has " + row[0]);
            x.hours(1);
            CHECK.due("one who has " + row[0] + " of 5", x.work(0, 4), row[1]);
        }
        ThirstHours y = work("plain at a holds 9 has 9 sips 1", 2, "sips 5 has 5");
        y.hours(2);
        CHECK.due("DRY in that hour", y.work(0, 4), 3);
        ThirstHours z = work("plain at a holds 9 has 9 sips 1", 2, "sips 5 has 0");
        z.hours(1);
        z.draw(0, 5);
        z.hours(1);
        CHECK.dueRow("DRY in an hour ahead alone", new int[] {z.person(0, 3), z.work(0, 4)}, 1, 1);
    }

    private static void missedOnce() {
        ThirstHours x = work("plain at a holds 9 has 1 sips 1", 1, "sips 5 has 4");
        x.hours(1);
        x.draw(0, 50);
        x.hours(5);
        CHECK.dueRow("missed for ever", new int[] {x.timer(0, 5), x.work(0, 4), x.count(6), x.count(7)}, 1, 3, 0, 0);
        ThirstHours y = work("dew at a holds 9 has 0 sips 2", 1, "sips 5 has 4");
        y.hours(2);
        CHECK.due("too late and DRY: missed", y.work(0, 4), 3);
    }

    /** "then it pays". */
    private static void onlyInTimePays() {
        ThirstHours x = CHECK.withPost("place a well 0;clock c plain at a holds 9 has 9 sips 0;"
                + "clock d dew at a holds 9 has 0 sips 2;person e at a sips 0 has 0;person f at a sips 1 has 0;"
                + "work s by e clock c hour 1 pays 1;work t by f clock c hour 1 pays 2;work u by e clock d hour 1 pays 4;"
                + "work v by e clock c hour 99 pays 8;work w by e clock c hour 2 pays 0;");
        x.hours(2);
        CHECK.dueRow("works", new int[] {x.work(0, 4), x.work(1, 4), x.work(2, 4), x.work(3, 4), x.work(4, 4)},
                1, 3, 2, 0, 1);
        CHECK.dueRow("in time, paid", new int[] {x.count(6), x.count(7)}, 2, 1);
    }

    /** Promise 5: "1 it stood still in the last hour". */
    private static void stillOfLastHour() {
        ThirstHours x = clock("plain at a holds 9 has 2 sips 0;heat 1 to 1 3");
        CHECK.due("without an hour", x.timer(0, 6), 0);
        int[] still = {0, 1, 0};
        for (int h = 0; h < still.length; h++) {
            x.hours(1);
            CHECK.due("behind hour " + h, x.timer(0, 6), still[h]);
        }
    }

    /** Promise 10: "So many HOURS (1 to 24): how many passed in all; NONE: others." */
    private static void hoursAllowed() {
        ThirstHours x = new ThirstHours();
        CHECK.due("hours(1)", x.hours(1), 1);
        CHECK.due("hours(24)", x.hours(24), 25);
        CHECK.due("hours(24)", x.hours(24), 49);
        for (int many : new int[] {0, 25, -1, -24, 1000, Integer.MIN_VALUE, Integer.MAX_VALUE}) {
            CHECK.refused("hours(" + many + ")", Check::lived, y -> y.hours(many), -1);
        }
    }

    /** Promise 5: "THIRST of the next hour", by each CLOCK's own sips, kind and what it shows. */
    private static void thirstOfEach() {
        ThirstHours x = CHECK.withPost("place a well 0;clock b plain at a holds 9 has 0 sips 1;"
                + "clock c old at a holds 99 has 99 sips 2;clock d milk at a holds 99 has 99 sips 4;"
                + "clock e dew at a holds 99 has 99 sips 3;heat 0 to 23 1;thirst base+hot*kind*10+shown*50;");
        CHECK.dueRow("THIRST at first", new int[] {x.timer(0, 7), x.timer(1, 7), x.timer(2, 7), x.timer(3, 7)},
                1, 12, 12, 33);
        x.hours(1);
        CHECK.dueRow("behind an hour", new int[] {x.timer(0, 7), x.timer(1, 7), x.timer(2, 7), x.timer(3, 7)},
                1, 62, 12, 83);
        x.hours(1);
        CHECK.dueRow("behind two", new int[] {x.timer(0, 7), x.timer(1, 7), x.timer(2, 7), x.timer(3, 7)},
                1, 99, 37, 83);
    }

    private static final int[] FAR = {Integer.MIN_VALUE, Integer.MAX_VALUE, Integer.MIN_VALUE + 1, 1 << 16, -(1 << 16)};

    /** Promise 5, what -1 and 8, CLOCK -1 and the one behind the last. */
    private static void timerEdges() {
        ThirstHours x = CHECK.withPost(Check.FULL);
        CHECK.dueRow("the first", new int[] {x.timer(0, 0), x.timer(0, 1), x.timer(0, 2), x.timer(0, 3), x.timer(0, 4),
            x.timer(0, 5), x.timer(0, 6), x.timer(0, 7)}, 0, 0, 11, 1, 1, 0, 0, 1);
        CHECK.dueRow("the last", new int[] {x.timer(5, 0), x.timer(5, 1), x.timer(5, 2), x.timer(5, 3), x.timer(5, 4),
            x.timer(5, 5), x.timer(5, 6), x.timer(5, 7)}, 1, 0, 16, 6, 6, 0, 0, 6);
        CHECK.dueRow("others", new int[] {x.timer(-1, 0), x.timer(6, 0), x.timer(0, -1), x.timer(0, 8), x.timer(5, 8),
            x.timer(6, 8), x.timer(-1, -1)}, -1, -1, -1, -1, -1, -1, -1);
        for (int far : FAR) {
            CHECK.dueRow("far", new int[] {x.timer(far, 0), x.timer(0, far), x.timer(far, far)}, -1, -1, -1);
        }
        CHECK.due("the one behind the last of two", CHECK.withPost("place a well 1;clock b old at a holds 1 has 1 sips 1;"
                + "clock c old at a holds 1 has 1 sips 1;").timer(2, 0), -1);
    }

    private static void personEdges() {
        ThirstHours x = CHECK.withPost(Check.FULL);
        CHECK.dueRow("the first", new int[] {x.person(0, 0), x.person(0, 1), x.person(0, 2), x.person(0, 3)}, 0, 1, 1, 0);
        CHECK.dueRow("the last", new int[] {x.person(3, 0), x.person(3, 1), x.person(3, 2), x.person(3, 3)}, 3, 4, 4, 0);
        CHECK.dueRow("others", new int[] {x.person(-1, 0), x.person(4, 0), x.person(0, -1), x.person(0, 4), x.person(3, 4),
            x.person(4, 4)}, -1, -1, -1, -1, -1, -1);
        for (int far : FAR) {
            CHECK.dueRow("far", new int[] {x.person(far, 0), x.person(0, far), x.person(far, far)}, -1, -1, -1);
        }
        CHECK.due("the one behind the last of one", person(1, 1).person(1, 0), -1);
    }

    private static void workEdges() {
        ThirstHours x = CHECK.withPost(Check.FULL);
        CHECK.dueRow("the first", new int[] {x.work(0, 0), x.work(0, 1), x.work(0, 2), x.work(0, 3), x.work(0, 4)},
                0, 0, 1, 1, 0);
        CHECK.dueRow("the last", new int[] {x.work(5, 0), x.work(5, 1), x.work(5, 2), x.work(5, 3), x.work(5, 4)},
                0, 5, 6, 6, 0);
        CHECK.dueRow("others", new int[] {x.work(-1, 0), x.work(6, 0), x.work(0, -1), x.work(0, 5), x.work(5, 5),
            x.work(6, 5)}, -1, -1, -1, -1, -1, -1);
        for (int far : FAR) {
            CHECK.dueRow("far", new int[] {x.work(far, 0), x.work(0, far), x.work(far, far)}, -1, -1, -1);
        }
        CHECK.due("the one behind the last of one", work("old at a holds 1 has 1 sips 1", 1, "sips 1 has 1").work(1, 0), -1);
    }

    private static void wellEdges() {
        ThirstHours x = CHECK.withPost(Check.FULL);
        CHECK.dueRow("wells", new int[] {x.well(0), x.well(4), x.well(-1), x.well(5)}, 10, 50, -1, -1);
        for (int far : FAR) {
            CHECK.due("well(" + far + ")", x.well(far), -1);
        }
        CHECK.due("the one behind the last of one", person(1, 1).well(1), -1);
        CHECK.due("without a POST", new ThirstHours().well(0), -1);
    }

    /** Promise 9: "(0: the same); NONE: others, no way". */
    private static void wayEdges() {
        ThirstHours x = CHECK.withPost(Check.FULL);
        CHECK.dueRow("ways", new int[] {x.way(0, 4), x.way(4, 0), x.way(0, 0), x.way(4, 4), x.way(0, 5), x.way(5, 0),
            x.way(-1, 0), x.way(0, -1), x.way(5, 5), x.way(-1, -1)}, 4, 4, 0, 0, -1, -1, -1, -1, -1, -1);
        for (int far : FAR) {
            CHECK.dueRow("far", new int[] {x.way(far, 0), x.way(0, far), x.way(far, far)}, -1, -1, -1);
        }
        ThirstHours y = CHECK.withPost("place a well 1;place b well 1;place c well 1;place d well 1;place e well 1;"
                + "way a b 9;way c d 9;way b c 9;");
        CHECK.dueRow("the longest, and none", new int[] {y.way(0, 3), y.way(3, 0), y.way(0, 4), y.way(4, 3), y.way(4, 4)},
                27, 27, -1, -1, 0);
        ThirstHours z = CHECK.withPost("place a well 1;place b well 1;place c well 1;way a b 9;way a c 4;way c b 5;");
        CHECK.due("of equal length", z.way(0, 1), 9);
        ThirstHours w = CHECK.withPost("place a well 1;place b well 1;place c well 1;way a b 9;way a c 4;way c b 4;");
        CHECK.due("one less over another", w.way(0, 1), 8);
    }
}
