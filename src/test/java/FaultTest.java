/** Promises 3 and 4: FAULTS, kind + 16 * the place of the first token that is wrong. */
public final class FaultTest {
    private static final Check CHECK = new Check();

    /** The FAULT is at the sign ^, which is taken out of the text. */
    private static void post(int kind, String text) {
        int at = text.indexOf('^');
        String told = text.substring(0, at) + text.substring(at + 1);
        CHECK.due("post() of " + text, Check.readPost(new ThirstHours(), told), kind + 16 * at);
    }

    private static final String HERE = "place a well 9;place b well 9;clock c old at a holds 9 has 1 sips 1;"
            + "person e at a sips 1 has 1;work w by e clock c hour 1 pays 1;";

    private static void here(int kind, String text) {
        post(kind, HERE + text);
    }

    private static void days(int kind, String text) {
        int at = text.indexOf('^');
        String told = text.substring(0, at) + text.substring(at + 1);
        ThirstHours x = CHECK.withPost(HERE);
        CHECK.due("days() of a good one", Check.readDays(x, "hour 1;hour 2;"), 0);
        CHECK.due("days() of " + text, Check.readDays(x, told), kind + 16 * at);
        CHECK.due("DAYS stay", x.count(8), 2);
        CHECK.due("the TAPE is taken", x.count(12), 0);
    }

    private static void thirst(int kind, String text) {
        post(kind, "thirst " + text + ";");
    }

    private static void good(String text) {
        CHECK.due("post() of " + text, Check.readPost(new ThirstHours(), text), 0);
    }

    public static void main(String[] args) {
        noTokens();
        endings();
        cantStand();
        notTold();
        toldAlready();
        badNumbers();
        tooMany();
        expressions();
        daysFaults();
        fullTapes();
        CHECK.end();
    }

    private static void noTokens() {
        post(1, "^#");
        post(1, "place a ^A");
        post(1, "^placeaplace a");
        post(1, "place ^abcdefghi well 1;");
        good("place abcdefgh well 1;");
        post(1, "place a well ^12345;");
        post(1, "place a well ^00001;");
        post(1, "place a well 1^,");
        post(1, "place a well 1;^_");
        post(1, "thirst 1 ^> 2;");
        post(1, "thirst 1 ^/ 2;");
        post(1, "thirst ^12345;");
    }

    private static void endings() {
        post(1, "place^");
        post(1, "place a^");
        post(1, "place a well 1^");
        post(1, "place a well 1  \n^");
        here(1, "work x by e clock c hour 1 pays 1^");
        post(1, "thirst^");
        post(1, "thirst 1+^");
        post(1, "thirst (1^");
    }

    private static void cantStand() {
        post(1, "^;");
        post(1, "^5");
        post(1, "^well a;");
        post(1, "^hour 1;");
        post(1, "^a b;");
        post(1, "place ^5 well 1;");
        post(1, "place ^; well 1;");
        post(1, "place a ^5;");
        post(1, "place a well ^a;");
        post(1, "place a well 1 ^2;");
        for (String kept : ("place well way clock at holds has sips person work by hour pays heat to thirst pour draw go"
                + " steal plain old milk dew not and or").split(" ")) {
            post(1, "place ^" + kept + " well 1;");
            here(1, "way ^" + kept + " a 1;");
            here(1, "way a ^" + kept + " 1;");
            days(1, "draw ^" + kept + " 1;");
        }
        here(1, "clock k ^base at a holds 1 has 1 sips 1;");
        here(1, "clock k old ^a;");
        here(1, "clock k old at a ^has 1;");
        here(1, "clock k old at a holds ^x;");
        here(1, "clock k old at a holds 1 ^sips;");
        here(1, "clock k old at a holds 1 has 1 ^;");
        here(1, "clock k old at a holds 1 has 1 sips ^;");
        here(1, "clock k old at a holds 1 has 1 sips 1 ^a");
        here(1, "person k ^a;");
        here(1, "person k at ^7;");
        here(1, "person k at a ^has 1;");
        here(1, "person k at a sips 1 ^;");
        here(1, "person k at a sips 1 has 1 ^has");
        here(1, "work k ^e;");
        here(1, "work k by e ^c;");
        here(1, "work k by e clock c ^pays;");
        here(1, "work k by e clock c hour 1 ^;");
        here(1, "work k by e clock c hour 1 pays 1 ^1");
        here(1, "way a b ^;");
        here(1, "way a b 1 ^way");
        post(1, "heat ^to");
        post(1, "heat 1 ^2 3;");
        post(1, "heat 1 to ^to 3;");
        post(1, "heat 1 to 2 ^;");
        post(1, "heat 1 to 2 3 ^4;");
    }

    private static void notTold() {
        post(2, "way ^a b 1;");
        here(2, "way a ^z 1;");
        here(2, "way ^c b 1;");
        here(2, "way a ^e 1;");
        here(2, "clock k old at ^z holds 1 has 1 sips 1;");
        here(2, "clock k old at ^k holds 1 has 1 sips 1;");
        here(2, "person k at ^c sips 1 has 1;");
        here(2, "work k by ^z clock c hour 1 pays 1;");
        here(2, "work k by ^c clock c hour 1 pays 1;");
        here(2, "work k by e clock ^z hour 1 pays 1;");
        here(2, "work k by e clock ^e hour 1 pays 1;");
    }

    private static void toldAlready() {
        for (String told : "a b c e w".split(" ")) {
            here(3, "place ^" + told + " well 1;");
            here(3, "clock ^" + told + " old at a holds 1 has 1 sips 1;");
            here(3, "person ^" + told + " at a sips 1 has 1;");
            here(3, "work ^" + told + " by e clock c hour 1 pays 1;");
        }
        here(3, "way a ^a 1;");
        here(3, "way a b 1;way a ^b 1;");
        here(3, "way a b 1;way b ^a 2;");
        post(3, "thirst 1;^thirst 1;");
        post(3, "thirst 1;^thirst #");
    }

    private static void badNumbers() {
        here(4, "way a b ^0;");
        here(4, "way a b ^10;");
        here(4, "clock k old at a holds ^0 has 0 sips 1;");
        here(4, "clock k old at a holds ^1000 has 0 sips 1;");
        here(4, "clock k old at a holds 5 has ^6 sips 1;");
        here(4, "clock k old at a holds 5 has 5 sips ^10;");
        here(4, "person k at a sips ^10 has 1;");
        here(4, "person k at a sips 9 has ^1000;");
        here(4, "work k by e clock c hour ^0 pays 1;");
        here(4, "work k by e clock c hour ^100 pays 1;");
        here(4, "work k by e clock c hour 99 pays ^100;");
        post(4, "heat ^24 to 24 1;");
        post(4, "heat 23 to ^24 1;");
        post(4, "heat 3 to ^2 1;");
        post(4, "heat 3 to 3 ^10;");
    }

    private static void tooMany() {
        String places = "place a well 1;place b well 1;place c well 1;place d well 1;place e well 1;";
        post(5, places + "^place f well 1;");
        post(5, places + "^place");
        StringBuilder clocks = new StringBuilder("place a well 1;person e at a sips 1 has 1;");
        for (char k = 'k'; k <= 'p'; k++) {
            clocks.append("clock ").append(k).append(" old at a holds 1 has 1 sips 1;");
        }
        post(5, clocks + "^clock z old at a holds 1 has 1 sips 1;");
        good(clocks + "work z by e clock p hour 1 pays 1;");
        StringBuilder people = new StringBuilder("place a well 1;");
        for (char k = 'k'; k <= 'n'; k++) {
            people.append("person ").append(k).append(" at a sips 1 has 1;");
        }
        post(5, people + "^person z at a sips 1 has 1;");
        StringBuilder works = new StringBuilder(HERE);
        for (char k = 'k'; k <= 'o'; k++) {
            works.append("work ").append(k).append(" by e clock c hour 1 pays 1;");
        }
        post(5, works + "^work z by e clock c hour 1 pays 1;");
    }

    private static void expressions() {
        thirst(1, "^");
        thirst(1, "^has");
        thirst(1, "^nothing");
        thirst(1, "^place");
        thirst(1, "^-1");
        thirst(1, "1 ^2");
        thirst(1, "1 ^not 2");
        thirst(1, "1 + ^+ 2");
        thirst(1, "1 < 2 ^< 3");
        thirst(1, "1 = 2 ^< 3");
        thirst(1, "1 < 2 ^= 3");
        thirst(1, "1 and ^");
        thirst(1, "^and 1");
        thirst(1, "1 or ^or 1");
        thirst(1, "not ^");
        thirst(1, "(^)");
        thirst(1, "(1^");
        thirst(1, "1^)");
        thirst(1, "(1 ^2)");
        thirst(1, "base ^hot");
        good("thirst 1 < 2 and 3 < 4 or 5 = 6;");
        good("thirst ((((1+2)*3)-4)<5)=6;");
        good("thirst ((((1))));");
        thirst(5, "(((((^1)))))");
        thirst(5, "(((((^(1))))))");
        thirst(5, "(((((^not 1)))))");
        thirst(5, "(((((^base)))))");
        thirst(5, "1+(((((^1)))))");
        thirst(5, "1*(((((^1)))))");
        thirst(5, "1<(((((^1)))))");
        thirst(5, "1 and (((((^1)))))");
        thirst(1, "(((((^)))))");
        thirst(1, "(((((^*)))))");
        good("thirst not not not not 1;");
        thirst(5, "not not not not not ^1");
        thirst(5, "not not not not not ^not 1");
        good("thirst not(not(1));");
        thirst(5, "not(not(not ^1))");
        good("thirst (1)+(1)+(1)+(1)+(1)+(1)+not not 1;");
    }

    /** A token ends with the TAPE, be it full or shorter than one before. */
    private static void fullTapes() {
        String blanks = " ".repeat(995);
        post(1, blanks + "place^");
        post(1, " ".repeat(986) + "place a well 1^");
        post(1, blanks + "^abcde");
        post(1, blanks + "^12345");
        ThirstHours x = new ThirstHours();
        CHECK.due("a long WORD", Check.readPost(x, "placeplace"), 1);
        CHECK.due("a short one", Check.readPost(x, "place"), 5 * 16 + 1);
        CHECK.due("a long NUMBER", Check.readPost(x, "heat 12345 to 2 2;"), 5 * 16 + 1);
        CHECK.due("a short one", Check.readPost(x, "heat 123"), 5 * 16 + 4);
        CHECK.due("a shorter one", Check.readPost(x, "heat 1"), 6 * 16 + 1);
        CHECK.due("DAYS", Check.readDays(x, "hour 2222"), 5 * 16 + 4);
        CHECK.due("a shorter one", Check.readDays(x, "hour 2"), 6 * 16 + 1);
    }

    private static void daysFaults() {
        days(1, "^a;");
        days(1, "^place a well 1;");
        days(1, "hour^");
        days(1, "hour ^a;");
        days(1, "hour 1^");
        days(1, "hour 1 ^1;");
        days(4, "hour ^0;");
        days(4, "hour ^25;");
        days(2, "pour ^z c 1;");
        days(2, "pour ^c c 1;");
        days(2, "pour e ^e 1;");
        days(2, "pour e ^z 1;");
        days(4, "pour e c ^0;");
        days(4, "pour e c ^1000;");
        days(1, "pour e c ^;");
        days(1, "pour e c 1 ^1");
        days(2, "draw ^w 1;");
        days(4, "draw e ^0;");
        days(4, "draw e ^1000;");
        days(1, "draw e 1^");
        days(2, "go ^a a;");
        days(2, "go e ^e;");
        days(1, "go e ^1;");
        days(1, "go e a ^1");
        days(2, "steal ^e 1;");
        days(4, "steal c ^0;");
        days(4, "steal c ^1000;");
        days(1, "steal c 1^");
        String forty = "hour 1;".repeat(40);
        days(5, forty + "^hour 1;");
        days(5, forty + "^steal");
        days(1, forty + "^place");
        days(1, forty + "^;");
        ThirstHours x = CHECK.withPost(HERE);
        CHECK.due("forty lines", Check.readDays(x, forty), 0);
        CHECK.due("lines", x.count(8), 40);
        CHECK.due("the largest NUMBERS", Check.readDays(x, "hour 24;pour e c 999;draw e 999;steal c 999;go e b;"), 0);
        CHECK.due("lines", x.count(8), 5);
        CHECK.due("no lines", Check.readDays(x, " \n"), 0);
        CHECK.due("lines", x.count(8), 0);
    }
}
