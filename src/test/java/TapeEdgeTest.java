/** The edges of promise 2, and of part 1's TAPE and TOKENS: a sentence each. */
public final class TapeEdgeTest {
    private static final Check CHECK = new Check();

    /** What post() answers of a text on a new object's TAPE. */
    private static void post(String text, int due) {
        CHECK.due("post() of " + text.strip(), Check.readPost(new ThirstHours(), text), due);
    }

    private static int fault(int kind, int place) {
        return kind + 16 * place;
    }

    public static void main(String[] args) {
        thousandSigns();
        feedAcrossTheEnd();
        whichSigns();
        upTo24();
        readingTakesIt();
        emptyTape();
        letters();
        eightLetters();
        digits();
        fourDigits();
        asLongAsCanBe();
        letterBehindNumber();
        blanks();
        tokenSigns();
        CHECK.end();
    }

    /** "The TAPE has at most 1,000 signs"; "what is beyond 1,000" is left out. */
    private static void thousandSigns() {
        ThirstHours x = new ThirstHours();
        CHECK.due("999 signs", Check.feed(x, " ".repeat(999)), 999);
        CHECK.due("the 1000th", x.feed(' ', 0, 0), 1000);
        CHECK.due("the 1001st", x.feed(' ', 0, 0), 1000);
        CHECK.due("signs on the TAPE", x.count(12), 1000);
        CHECK.due("none of the 1000 is wrong", x.post(), 0);
        String line = "place a well 9999;";
        ThirstHours y = new ThirstHours();
        CHECK.due("1000 signs", Check.readPost(y, " ".repeat(1000 - line.length()) + line), 0);
        CHECK.due("the 1000th was read", y.well(0), 9999);
        post(" ".repeat(1001 - line.length()) + line, fault(1, 1000));
        post(" ".repeat(999) + "#", fault(1, 999));
        post(" ".repeat(1000) + "#", 0);
    }

    /** One feed may come to the end in its midst: just the signs ahead of it stay. */
    private static void feedAcrossTheEnd() {
        for (int room = 0; room <= 24; room++) {
            for (int at = 0; at < 24; at++) {
                ThirstHours x = new ThirstHours();
                Check.feed(x, " ".repeat(1000 - room));
                CHECK.due("feed with room for " + room, Check.feed(x, oneWrong(at)), 1000);
                CHECK.due("sign " + at + " with room for " + room, x.post(), at < room ? fault(1, 1000 - room + at) : 0);
            }
        }
    }

    /** 24 blanks, one of which is no token. */
    private static String oneWrong(int at) {
        return " ".repeat(at) + "#" + " ".repeat(23 - at);
    }

    /** "signs, 10 and 32 .. 126"; "others than 10 and 32 .. 126 .. are left out". */
    private static void whichSigns() {
        int[] signs = {0, 1, 9, 10, 11, 13, 31, 32, 33, 125, 126, 127, 128, 138, 160, 254, 255};
        int[] taken = {0, 0, 0, 1, 0, 0, 0, 1, 1, 1, 1, 0, 0, 0, 0, 0, 0};
        for (int i = 0; i < signs.length; i++) {
            CHECK.due("feed of sign " + signs[i], new ThirstHours().feed(signs[i], 0, 0), taken[i]);
            CHECK.due("three of sign " + signs[i], new ThirstHours().feed(signs[i], signs[i], signs[i]), 3 * taken[i]);
            long all = signs[i] * 0x0101010101010101L;
            CHECK.due("24 of sign " + signs[i], new ThirstHours().feed(all, all, all), 24 * taken[i]);
        }
        ThirstHours x = new ThirstHours();
        CHECK.due("what is left out leaves no gap", x.feed(0x7000016c61096365L, 0x0b20611f20ff777fL, 0x656c6c8020313b00L), 15);
        CHECK.due("post", x.post(), 0);
        CHECK.due("well", x.well(0), 1);
    }

    /** "Up to 24 signs come behind the TAPE: the bytes of a, b, c, of each the highest first". */
    private static void upTo24() {
        CHECK.due("no sign", new ThirstHours().feed(0, 0, 0), 0);
        CHECK.due("24 signs", new ThirstHours().feed(0x2020202020202020L, 0x2020202020202020L, 0x2020202020202020L), 24);
        for (int at = 0; at < 24; at++) {
            post(oneWrong(at), fault(1, at));
        }
        ThirstHours y = new ThirstHours();
        CHECK.due("a feed", y.feed(0x706c616365L, 0, 0), 5);
        CHECK.due("a feed behind it", y.feed(0, 0x20612077L, 0x656c6c20393bL), 15);
        CHECK.due("in turn", y.post(), 0);
        CHECK.due("well", y.well(0), 9);
    }

    /** "what reads it takes it: it is empty then"; by a FAULT, too. */
    private static void readingTakesIt() {
        ThirstHours x = new ThirstHours();
        CHECK.due("a good POST", Check.readPost(x, "place a well 1;"), 0);
        CHECK.due("the TAPE behind it", x.count(12), 0);
        CHECK.due("good DAYS", Check.readDays(x, "hour 1;"), 0);
        CHECK.due("the TAPE behind them", x.count(12), 0);
        CHECK.due("a faulty POST", Check.readPost(x, "place a well 1;#"), fault(1, 15));
        CHECK.due("the TAPE behind it", x.count(12), 0);
        CHECK.due("faulty DAYS", Check.readDays(x, "hour 1;hour 0;"), fault(4, 12));
        CHECK.due("the TAPE behind them", x.count(12), 0);
        CHECK.due("nothing is left of it", Check.feed(x, "z"), 1);
        CHECK.due("nor of what was told", x.post(), fault(1, 0));
        Check.feed(x, " ".repeat(1000));
        CHECK.due("1000 blanks", x.post(), 0);
        CHECK.due("there is room again", Check.feed(x, " ".repeat(1000)), 1000);
    }

    /** An empty TAPE is a POST of nothing, and DAYS of nothing. */
    private static void emptyTape() {
        ThirstHours y = CHECK.withPost("place a well 1;");
        CHECK.due("DAYS", Check.readDays(y, "hour 1;"), 0);
        CHECK.due("lines", y.count(8), 1);
        CHECK.due("DAYS of nothing", y.days(), 0);
        CHECK.due("lines", y.count(8), 0);
        CHECK.due("a POST of nothing", y.post(), 0);
        CHECK.due("PLACES", y.count(0), 0);
        CHECK.same("behind a POST of nothing", y, new ThirstHours());
    }

    /** "WORDS (letters a .. z": the signs next to a and z, and A to Z, are none. */
    private static void letters() {
        post("place a well 1;place z well 1;", 0);
        for (char sign : new char[] {'`', '{', '@', 'A', 'Z', '[', '_'}) {
            post("place " + sign + " well 1;", fault(1, 6));
            post("place a" + sign + " well 1;", fault(1, 7));
            post("place " + sign + "a well 1;", fault(1, 6));
        }
    }

    /** "8 at most"; "a longer WORD .. at its first sign" is none. */
    private static void eightLetters() {
        post("place abcdefgh well 1;", 0);
        post("place zzzzzzzz well 1;", 0);
        post("place abcdefghi well 1;", fault(1, 6));
        post("place zzzzzzzzz well 1;", fault(1, 6));
        post("place " + "a".repeat(90) + " well 1;", fault(1, 6));
        post("placeplac", fault(1, 0));
        ThirstHours x = CHECK.withPost("place abcdefgh well 1;place abcdefgi well 2;place bcdefgh well 3;"
                + "person aaaaaaaa at abcdefgi sips 0 has 0;person aaaaaaa at bcdefgh sips 0 has 0;");
        CHECK.due("each letter tells", x.person(0, 0) * 10 + x.person(1, 0), 12);
        CHECK.due("a longer one is not a shorter one", Check.readDays(x, "draw aaaaaaaaa 1;"), fault(1, 5));
        CHECK.due("nor is a shorter one", Check.readDays(x, "draw aaaaaa 1;"), fault(2, 5));
    }

    /** "NUMBERS (1 to 4 digits": the signs next to 0 and 9 are none. */
    private static void digits() {
        ThirstHours x = CHECK.withPost("place a well 0;place b well 9;place c well 1234;place d well 5678;");
        CHECK.dueRow("wells", new int[] {x.well(0), x.well(1), x.well(2), x.well(3)}, 0, 9, 1234, 5678);
        post("place a well /;", fault(1, 13));
        post("place a well :;", fault(1, 13));
        post("place a well 1/;", fault(1, 14));
        post("place a well 1:;", fault(1, 14));
        post("place a well ;", fault(1, 13));
    }

    /** "1 to 4 digits"; "a longer .. NUMBER, too, at its first sign" is none. */
    private static void fourDigits() {
        ThirstHours x = CHECK.withPost("place a well 9999;place b well 0007;place c well 0000;");
        CHECK.dueRow("wells", new int[] {x.well(0), x.well(1), x.well(2)}, 9999, 7, 0);
        post("place a well 10000;", fault(1, 13));
        post("place a well 00007;", fault(1, 13));
        post("place a well 00000;", fault(1, 13));
        post("place a well " + "9".repeat(90) + ";", fault(1, 13));
        post("place a well 4294967296;", fault(1, 13));
        post("place a well 4294967297a;", fault(1, 13));
    }

    /** "TOKENS, each as long as can be". */
    private static void asLongAsCanBe() {
        post("placea well 1;", fault(1, 0));
        post("place awell 1;", fault(1, 12));
        post("place a well 1 2;", fault(1, 15));
        post("place a well 12;", 0);
        post("place a well1;", 0);
    }

    /** "a letter may stand right behind". */
    private static void letterBehindNumber() {
        ThirstHours x = CHECK.withPost("place a well 5;heat 3to 4 6;clock c plain at a holds 99has 1 sips 1;");
        CHECK.due("holds", x.timer(0, 2), 99);
        post("place a well 9999x;", fault(1, 17));
        post("place a well 5;heat 3to4 6;", 0);
        post("place a well 5;heat 3to4to;", fault(1, 24));
        post("place a well 99990x;", fault(1, 13));
    }

    /** "blanks (10, 32) between where one likes". */
    private static void blanks() {
        post("\n \nplace\na\n\nwell  1\n;\n \n", 0);
        post("place a well 1;", 0);
        post("\n", 0);
        post(" ", 0);
        post("  place a wel l 1;", fault(1, 10));
        post("place a well 1 0;", fault(1, 15));
        post("place a well 1;place b well 2;way a b 1;thirst(base)<(hot)and not(1)or 2*3;", 0);
    }

    /** "the signs ( ) < = + - * ;  All else .. is none". */
    private static void tokenSigns() {
        post("thirst (1)<(2);", 0);
        post("thirst 1=2;", 0);
        post("thirst 1+2-3*4;", 0);
        for (char sign = 33; sign < 127; sign++) {
            boolean letterOrDigit = sign >= 'a' && sign <= 'z' || sign >= '0' && sign <= '9';
            boolean joins = sign == '<' || sign == '=' || sign == '+' || sign == '-' || sign == '*';
            if (!letterOrDigit) {
                post("thirst 1 " + sign + " 2;", joins ? 0 : sign == ';' ? fault(1, 11) : fault(1, 9));
                post("place a well 1" + sign, sign == ';' ? 0 : fault(1, 14));
            }
        }
    }
}
