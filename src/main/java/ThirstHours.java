import java.util.NoSuchElementException;

/**
 * A desert post whose clocks drink: what the document ../shared/DOC.md promises.
 * The words in capitals in the comments are the document's own.
 */
public final class ThirstHours {
    public static final int NONE = -1;

    /** What judged and late answer to a what that is none, as NONE says something else there. */
    private static final int NO_SUCH = -2;

    private static final int MOST_SIGNS = 1000;
    private static final int MOST_LETTERS = 8;
    private static final int MOST_DIGITS = 4;
    private static final int MOST_PLACES = 5;
    private static final int MOST_CLOCKS = 6;
    private static final int MOST_PEOPLE = 4;
    private static final int MOST_WORKS = 6;
    private static final int MOST_LINES = 40;
    private static final int MOST_SAID = 10;
    private static final int MOST_TOLD = 12;
    private static final int MOST_UNDONE = 16;
    private static final int MOST_WITHIN = 5;
    private static final int MARKS = 4;

    private static final int DAY = 24;
    private static final int DEW_ENDS = 6;
    private static final int MOST_SIPS = 999;
    private static final int MOST_WATER = 9999;
    private static final int MOST_THIRST = 99;
    private static final int FAR = 240;

    private static final int OLD = 1;
    private static final int MILK = 2;
    private static final int DEW = 3;

    private static final int NOT_YET = 0;
    private static final int IN_TIME = 1;
    private static final int TOO_LATE = 2;
    private static final int MISSED = 3;

    private final Tape tape = new Tape();
    private final Reader reader = new Reader(tape);
    private Post post = new Post();
    private Post draft = new Post();
    private final Days draftDays = new Days();
    private final Store now = new Store();
    private final Store[] marks = new Store[MARKS];
    private final boolean[] laid = new boolean[MARKS];
    private final State[] undoable = new State[MOST_UNDONE];
    private int undoFrom;
    private int undoMany;
    private final State before = new State();
    private final Ahead ahead = new Ahead();
    private final Choice choice = new Choice(ahead);

    public ThirstHours() {
        for (int i = 0; i < MARKS; i++) {
            marks[i] = new Store();
        }
        for (int i = 0; i < MOST_UNDONE; i++) {
            undoable[i] = new State();
        }
    }

    public int feed(long a, long b, long c) {
        feedEight(a);
        feedEight(b);
        feedEight(c);
        return tape.length;
    }

    private void feedEight(long bytes) {
        for (int shift = 56; shift >= 0; shift -= 8) {
            tape.put((int) (bytes >>> shift) & 255);
        }
    }

    public int post() {
        int fault = reader.readPost(draft);
        tape.length = 0;
        if (fault == 0) {
            Post told = draft;
            draft = post;
            post = told;
            beginAnew();
        }
        return fault;
    }

    private void beginAnew() {
        now.state.copyFrom(post.first);
        now.days.many = 0;
        now.heard.said = 0;
        now.heard.told = 0;
        undoMany = 0;
        for (int i = 0; i < MARKS; i++) {
            laid[i] = false;
        }
    }

    public int days() {
        int fault = reader.readDays(post, draftDays);
        tape.length = 0;
        if (fault == 0) {
            now.days.copyFrom(draftDays);
        }
        return fault;
    }

    public int timer(int timer, int what) {
        if (!post.isClock(timer)) {
            return NONE;
        }
        State s = now.state;
        switch (what) {
            case 0: return post.kinds[timer];
            case 1: return post.sites[timer];
            case 2: return post.holds[timer];
            case 3: return s.has[timer];
            case 4: return post.sips[timer];
            case 5: return s.shown[timer];
            case 6: return s.still[timer];
            case 7: return post.thirst(timer, s.hour, s.shown[timer]);
            default: return NONE;
        }
    }

    public int person(int person, int what) {
        if (!post.isPerson(person)) {
            return NONE;
        }
        State s = now.state;
        switch (what) {
            case 0: return s.where[person];
            case 1: return post.drinks[person];
            case 2: return s.water[person];
            case 3: return s.dry[person];
            default: return NONE;
        }
    }

    public int work(int work, int what) {
        if (work < 0 || work >= post.works) {
            return NONE;
        }
        switch (what) {
            case 0: return post.doers[work];
            case 1: return post.timers[work];
            case 2: return post.dues[work];
            case 3: return post.pays[work];
            case 4: return now.state.done[work];
            default: return NONE;
        }
    }

    public int well(int place) {
        return post.isPlace(place) ? now.state.wells[place] : NONE;
    }

    public int way(int from, int to) {
        return post.isPlace(from) && post.isPlace(to) ? post.shortest(from, to) : NONE;
    }

    public int hours(int many) {
        if (many < 1 || many > DAY) {
            return NONE;
        }
        before.copyFrom(now.state);
        post.passHours(now.state, many);
        keepBefore();
        return now.state.hour;
    }

    public int draw(int person, int sips) {
        before.copyFrom(now.state);
        if (!post.drawWater(now.state, person, sips)) {
            return NONE;
        }
        keepBefore();
        return now.state.water[person];
    }

    public int pour(int person, int timer, int sips) {
        before.copyFrom(now.state);
        if (!post.pourWater(now.state, person, timer, sips)) {
            return NONE;
        }
        keepBefore();
        return now.state.has[timer];
    }

    public int go(int person, int place) {
        before.copyFrom(now.state);
        if (!post.walk(now.state, person, place)) {
            return NONE;
        }
        keepBefore();
        return now.state.hour;
    }

    public int steal(int timer, int sips) {
        before.copyFrom(now.state);
        if (!post.robClock(now.state, timer, sips)) {
            return NONE;
        }
        keepBefore();
        return now.state.has[timer];
    }

    /** The oldest of sixteen gives its room to the newest. */
    private void keepBefore() {
        undoable[(undoFrom + undoMany) % MOST_UNDONE].copyFrom(before);
        if (undoMany < MOST_UNDONE) {
            undoMany++;
        } else {
            undoFrom = (undoFrom + 1) % MOST_UNDONE;
        }
    }

    public boolean undo() {
        if (undoMany < 1) {
            return false;
        }
        undoMany--;
        now.state.copyFrom(undoable[(undoFrom + undoMany) % MOST_UNDONE]);
        return true;
    }

    public int judged(int what) {
        if (what < 0 || what > 2) {
            return NO_SUCH;
        }
        return ahead.judge(post, now.days, what);
    }

    public int shows(int timer, int hours) {
        if (!post.isClock(timer) || hours < 0 || hours > FAR) {
            return NONE;
        }
        return ahead.shownBehind(post, now.state, timer, hours);
    }

    public int stops(int timer) {
        return post.isClock(timer) ? ahead.firstStill(post, now.state, timer) : NONE;
    }

    public int late(int hours, int what) {
        if (hours < 1 || hours > FAR || what < NONE || what > 0) {
            return NO_SUCH;
        }
        return ahead.lateWorks(post, now.state, hours, what == 0);
    }

    public int siege(int water, int what) {
        if (water < 0 || water > MOST_WATER || what < 0 || what > 2) {
            return NONE;
        }
        return choice.besieged(post, water, what);
    }

    public boolean say(int timer, int shown, int off) {
        if (!post.isClock(timer) || shown < 0 || shown > 999 || off < 0 || off > 99) {
            return false;
        }
        return now.heard.addSaid(shown, off);
    }

    public int truth(int what) {
        return what < 0 || what > 3 ? NONE : now.heard.trueHours(what);
    }

    public int round(int person, int what) {
        if (!post.isPerson(person) || what < 0 || what > MOST_PLACES) {
            return NONE;
        }
        return choice.bestRound(post, now.state, person, what);
    }

    public int caravan(int timer, int legs, int chance, int millionths) {
        if (!post.isClock(timer) || legs < 1 || legs > 12) {
            return NONE;
        }
        if (chance < 0 || chance > 10 || millionths < 0 || millionths > 1000000) {
            return NONE;
        }
        return ahead.sealedSips(post, timer, legs, chance, millionths);
    }

    public boolean tell(int heat, int drunk) {
        if (heat < 0 || heat > 9 || drunk < 0 || drunk > 99) {
            return false;
        }
        return now.heard.addTold(heat, drunk);
    }

    public int laws(int what) {
        return what < 0 || what > 2 ? NONE : choice.lawsOf(now.heard, what);
    }

    public int theft(int timer, int shown, int hours, int what) {
        if (!post.isClock(timer) || hours < 1 || hours > 48 || what < 0 || what > 2) {
            return NONE;
        }
        return ahead.thefts(post, timer, shown, hours, what);
    }

    public int cups(int holds, int hours, int what) {
        if (holds < 1 || holds > MOST_WATER || hours < 1 || hours > 99 || what < 0 || what > 1) {
            return NONE;
        }
        return choice.fewestCups(post, now.state, holds, hours, what);
    }

    public int rests(int one, int other, int what) throws NoSuchElementException {
        if (!post.isPlace(one) || !post.isPlace(other) || one == other || what < NONE) {
            throw new NoSuchElementException();
        }
        int answer = choice.restingPrices(post, now.state, one, other, what);
        if (answer < 0) {
            throw new NoSuchElementException();
        }
        return answer;
    }

    public int years(int seed, int hours, int what) {
        if (seed < 0 || seed > 9999 || hours < 1 || hours > 400 || what < 0 || what > 2) {
            return NONE;
        }
        return ahead.drawnYears(post, now.state, seed, hours, what);
    }

    public boolean mark(int mark, boolean back) {
        if (mark < 0 || mark >= MARKS || back && !laid[mark]) {
            return false;
        }
        if (back) {
            now.copyFrom(marks[mark]);
            undoMany = 0;
        } else {
            marks[mark].copyFrom(now);
            laid[mark] = true;
        }
        return true;
    }

    public int count(int what) {
        switch (what) {
            case 0: return post.places;
            case 1: return post.ways;
            case 2: return post.clocks;
            case 3: return post.people;
            case 4: return post.works;
            case 5: return now.state.hour;
            case 6: return post.worksInTime(now.state);
            case 7: return post.paid(now.state);
            case 8: return now.days.many;
            case 9: return now.heard.said;
            case 10: return now.heard.told;
            case 11: return undoMany;
            case 12: return tape.length;
            case 13: return post.sipsInAll(now.state);
            default: return NONE;
        }
    }

    /** The WORDS that mean something by themselves. */
    private enum Word {
        PLACE("place", true), WELL("well", true), WAY("way", true), CLOCK("clock", true),
        AT("at", true), HOLDS("holds", true), HAS("has", true), SIPS("sips", true),
        PERSON("person", true), WORK("work", true), BY("by", true), HOUR("hour", true),
        PAYS("pays", true), HEAT("heat", true), TO("to", true), THIRST("thirst", true),
        POUR("pour", true), DRAW("draw", true), GO("go", true), STEAL("steal", true),
        PLAIN("plain", true), OLD("old", true), MILK("milk", true), DEW("dew", true),
        NOT("not", true), AND("and", true), OR("or", true),
        BASE("base", false), HOT("hot", false), KIND("kind", false), SHOWN("shown", false);

        private static final Word[] ALL = values();

        /** The WORD spelt as a number, as Tape spells it. */
        private final long spelt;
        /** No NAME may be so. */
        private final boolean kept;

        Word(String text, boolean kept) {
            long sum = 0;
            for (int i = 0; i < text.length(); i++) {
                sum = Tape.spell(sum, text.charAt(i));
            }
            this.spelt = sum;
            this.kept = kept;
        }

        static Word of(long spelt) {
            for (int i = 0; i < ALL.length; i++) {
                if (ALL[i].spelt == spelt) {
                    return ALL[i];
                }
            }
            return null;
        }
    }

    /** The TAPE, and the token of it that is looked at. */
    private static final class Tape {
        static final int END = 0;
        static final int WORD = 1;
        static final int NUMBER = 2;
        static final int SIGN = 3;
        static final int NO_TOKEN = 4;

        final char[] signs = new char[MOST_SIGNS];
        int length;
        int sort;
        int place;
        int number;
        long spelt;
        Word word;
        char sign;
        private int next;

        /** Twenty-seven to a letter, so that no two WORDS have the same number, and none has 0. */
        static long spell(long sum, char letter) {
            return sum * 27 + (letter - 'a' + 1);
        }

        void put(int sign) {
            boolean known = sign == 10 || sign >= 32 && sign <= 126;
            if (known && length < MOST_SIGNS) {
                signs[length] = (char) sign;
                length++;
            }
        }

        void begin() {
            next = 0;
            advance();
        }

        void advance() {
            skipBlanks();
            place = next;
            word = null;
            sign = 0;
            if (next >= length) {
                sort = END;
            } else if (isLetter(signs[next])) {
                takeWord();
            } else if (isDigit(signs[next])) {
                takeNumber();
            } else {
                takeSign();
            }
        }

        private void skipBlanks() {
            for (int i = next; i < length; i++) {
                if (signs[i] != ' ' && signs[i] != '\n') {
                    break;
                }
                next++;
            }
        }

        private void takeWord() {
            spelt = 0;
            for (int i = next; i < length; i++) {
                if (!isLetter(signs[i])) {
                    break;
                }
                spelt = spell(spelt, signs[i]);
                next++;
            }
            sort = next - place > MOST_LETTERS ? NO_TOKEN : WORD;
            if (sort == WORD) {
                word = Word.of(spelt);
            }
        }

        private void takeNumber() {
            number = 0;
            for (int i = next; i < length; i++) {
                if (!isDigit(signs[i])) {
                    break;
                }
                number = number * 10 + (signs[i] - '0');
                next++;
            }
            sort = next - place > MOST_DIGITS ? NO_TOKEN : NUMBER;
        }

        private void takeSign() {
            sign = signs[next];
            next++;
            switch (sign) {
                case '(': case ')': case '<': case '=': case '+': case '-': case '*': case ';':
                    sort = SIGN;
                    break;
                default:
                    sort = NO_TOKEN;
                    sign = 0;
                    break;
            }
        }

        boolean isName() {
            return sort == WORD && (word == null || !word.kept);
        }

        private static boolean isLetter(char c) {
            return c >= 'a' && c <= 'z';
        }

        private static boolean isDigit(char c) {
            return c >= '0' && c <= '9';
        }
    }

    /** The E of thirst, its operators behind what they join. */
    private static final class Law {
        static final int BASE = -1;
        static final int HOT = -2;
        static final int KIND = -3;
        static final int SHOWN = -4;
        static final int NOT = -5;
        static final int AND = -6;
        static final int OR = -7;
        static final int LESS = -8;
        static final int SAME = -9;
        static final int PLUS = -10;
        static final int MINUS = -11;
        static final int TIMES = -12;

        /** E, TEST, SUM and PRODUCT each hold one value back, at six depths at most. */
        private static final int DEEPEST = 32;

        private final int[] codes = new int[MOST_SIGNS];
        private int length;
        private final int[] stack = new int[DEEPEST];

        Law() {
            beUsual();
        }

        void beUsual() {
            codes[0] = BASE;
            codes[1] = HOT;
            codes[2] = PLUS;
            length = 3;
        }

        void beNothing() {
            length = 0;
        }

        /** A NUMBER stands for itself, all else is below 0. */
        void add(int code) {
            if (length < MOST_SIGNS) {
                codes[length] = code;
                length++;
            }
        }

        /** In one piece, as it is called the most and the deepest. */
        int worth(int base, int hot, int kind, int shown) {
            int top = 0;
            for (int i = 0; i < length; i++) {
                int code = codes[i];
                if (code >= SHOWN) {
                    if (top < DEEPEST) {
                        stack[top] = code >= 0 ? code : code == BASE ? base
                                : code == HOT ? hot : code == KIND ? kind : shown;
                        top++;
                    }
                } else if (code == NOT) {
                    if (top >= 1) {
                        stack[top - 1] = stack[top - 1] == 0 ? 1 : 0;
                    }
                } else if (top >= 2) {
                    top--;
                    int left = stack[top - 1];
                    int right = stack[top];
                    int joined;
                    switch (code) {
                        case AND: joined = left != 0 && right != 0 ? 1 : 0; break;
                        case OR: joined = left != 0 || right != 0 ? 1 : 0; break;
                        case LESS: joined = left < right ? 1 : 0; break;
                        case SAME: joined = left == right ? 1 : 0; break;
                        case PLUS: joined = left + right; break;
                        case MINUS: joined = left - right; break;
                        default: joined = left * right; break;
                    }
                    stack[top - 1] = joined;
                }
            }
            return stack[0];
        }
    }

    /** All that hours and hands change. */
    private static final class State {
        int hour;
        final int[] has = new int[MOST_CLOCKS];
        final int[] shown = new int[MOST_CLOCKS];
        final int[] still = new int[MOST_CLOCKS];
        final int[] where = new int[MOST_PEOPLE];
        final int[] water = new int[MOST_PEOPLE];
        final int[] dry = new int[MOST_PEOPLE];
        final int[] wells = new int[MOST_PLACES];
        final int[] done = new int[MOST_WORKS];

        void copyFrom(State other) {
            hour = other.hour;
            System.arraycopy(other.has, 0, has, 0, MOST_CLOCKS);
            System.arraycopy(other.shown, 0, shown, 0, MOST_CLOCKS);
            System.arraycopy(other.still, 0, still, 0, MOST_CLOCKS);
            System.arraycopy(other.where, 0, where, 0, MOST_PEOPLE);
            System.arraycopy(other.water, 0, water, 0, MOST_PEOPLE);
            System.arraycopy(other.dry, 0, dry, 0, MOST_PEOPLE);
            System.arraycopy(other.wells, 0, wells, 0, MOST_PLACES);
            System.arraycopy(other.done, 0, done, 0, MOST_WORKS);
        }

        void copyClock(State other, int clock) {
            hour = other.hour;
            has[clock] = other.has[clock];
            shown[clock] = other.shown[clock];
            still[clock] = other.still[clock];
        }
    }

    /** A POST as told, and how hours and hands change a State of it. */
    private static final class Post {
        static final int PLACE_NAMES = 0;
        static final int CLOCK_NAMES = PLACE_NAMES + MOST_PLACES;
        static final int PERSON_NAMES = CLOCK_NAMES + MOST_CLOCKS;
        static final int WORK_NAMES = PERSON_NAMES + MOST_PEOPLE;
        static final int NAMES = WORK_NAMES + MOST_WORKS;

        final long[] names = new long[NAMES];
        int places;
        int ways;
        int clocks;
        int people;
        int works;
        /** Hours of the way of one step between two PLACES, 0 where none is. */
        private final int[] steps = new int[MOST_PLACES * MOST_PLACES];
        private final int[] nearest = new int[MOST_PLACES * MOST_PLACES];
        final int[] kinds = new int[MOST_CLOCKS];
        final int[] sites = new int[MOST_CLOCKS];
        final int[] holds = new int[MOST_CLOCKS];
        final int[] sips = new int[MOST_CLOCKS];
        final int[] drinks = new int[MOST_PEOPLE];
        final int[] doers = new int[MOST_WORKS];
        final int[] timers = new int[MOST_WORKS];
        final int[] dues = new int[MOST_WORKS];
        final int[] pays = new int[MOST_WORKS];
        final int[] heats = new int[DAY];
        final Law law = new Law();
        /** How all is at hour 0. */
        final State first = new State();

        /** What lines tell is told anew by each line; only what stays when no line tells it is cleared. */
        void clear() {
            places = 0;
            ways = 0;
            clocks = 0;
            people = 0;
            works = 0;
            for (int i = 0; i < NAMES; i++) {
                names[i] = 0;
            }
            for (int i = 0; i < steps.length; i++) {
                steps[i] = 0;
            }
            for (int i = 0; i < DAY; i++) {
                heats[i] = 0;
            }
            law.beUsual();
        }

        boolean isPlace(int place) {
            return place >= 0 && place < places;
        }

        boolean isClock(int clock) {
            return clock >= 0 && clock < clocks;
        }

        boolean isPerson(int person) {
            return person >= 0 && person < people;
        }

        void addWay(int from, int to, int many) {
            steps[from * MOST_PLACES + to] = many;
            steps[to * MOST_PLACES + from] = many;
            ways++;
        }

        int step(int from, int to) {
            return steps[from * MOST_PLACES + to];
        }

        /** NONE where no way leads. */
        int shortest(int from, int to) {
            return nearest[from * MOST_PLACES + to];
        }

        void findShortest() {
            for (int from = 0; from < places; from++) {
                for (int to = 0; to < places; to++) {
                    int many = step(from, to);
                    nearest[from * MOST_PLACES + to] = from == to ? 0 : many > 0 ? many : NONE;
                }
            }
            for (int over = 0; over < places; over++) {
                for (int from = 0; from < places; from++) {
                    shortenOver(from, over);
                }
            }
        }

        private void shortenOver(int from, int over) {
            int there = shortest(from, over);
            for (int to = 0; to < places; to++) {
                int on = shortest(over, to);
                int known = shortest(from, to);
                if (there >= 0 && on >= 0 && (known < 0 || there + on < known)) {
                    nearest[from * MOST_PLACES + to] = there + on;
                }
            }
        }

        int thirst(int clock, int hour, int shown) {
            int worth = law.worth(sips[clock], heats[Math.floorMod(hour, DAY)], kinds[clock], shown);
            int thirst = Math.max(0, Math.min(worth, MOST_THIRST));
            return kinds[clock] == MILK ? (thirst + 1) / 2 : thirst;
        }

        /** What a CLOCK shows behind an hour in which it goes. */
        int shownNext(int clock, int hour, int shown) {
            return kinds[clock] == MILK && hour % 2 == 0 ? shown : shown + 1;
        }

        /** What a CLOCK needs to go on for so many hours. */
        int need(int clock, int hour, int shown, int many) {
            int sum = 0;
            int shows = shown;
            for (int i = 0; i < many; i++) {
                sum += thirst(clock, hour + i, shows);
                shows = shownNext(clock, hour + i, shows);
            }
            return sum;
        }

        void passHours(State s, int many) {
            for (int i = 0; i < many; i++) {
                passHour(s);
            }
        }

        void passHour(State s) {
            for (int c = 0; c < clocks; c++) {
                passClock(s, c);
            }
            int dry = drinkAll(s);
            s.hour++;
            settleWorks(s, dry);
        }

        /** A CLOCK's part of an HOUR; the hour itself does not pass. */
        void passClock(State s, int clock) {
            gatherDew(s, clock);
            drinkOrStand(s, clock, thirst(clock, s.hour, s.shown[clock]));
        }

        void gatherDew(State s, int clock) {
            boolean falls = kinds[clock] == DEW && s.hour % DAY < DEW_ENDS;
            if (falls && s.has[clock] < holds[clock]) {
                s.has[clock]++;
            }
        }

        void drinkOrStand(State s, int clock, int thirst) {
            if (s.has[clock] >= thirst) {
                s.has[clock] -= thirst;
                s.shown[clock] = shownNext(clock, s.hour, s.shown[clock]);
                s.still[clock] = 0;
            } else {
                s.still[clock] = 1;
            }
            if (kinds[clock] == OLD && s.has[clock] > 0) {
                s.has[clock]--;
            }
        }

        /** Who was DRY, as bits. */
        private int drinkAll(State s) {
            int dry = 0;
            for (int p = 0; p < people; p++) {
                if (s.water[p] >= drinks[p]) {
                    s.water[p] -= drinks[p];
                } else {
                    s.dry[p]++;
                    dry |= 1 << p;
                }
            }
            return dry;
        }

        private void settleWorks(State s, int dry) {
            for (int w = 0; w < works; w++) {
                if (s.done[w] == NOT_YET && s.shown[timers[w]] == dues[w]) {
                    boolean missed = (dry >> doers[w] & 1) == 1;
                    s.done[w] = missed ? MISSED : s.hour == dues[w] ? IN_TIME : TOO_LATE;
                }
            }
        }

        boolean drawWater(State s, int person, int sips) {
            if (!isPerson(person) || sips < 1 || sips > MOST_SIPS) {
                return false;
            }
            int place = s.where[person];
            if (s.wells[place] < sips || s.water[person] + sips > MOST_SIPS) {
                return false;
            }
            s.wells[place] -= sips;
            s.water[person] += sips;
            return true;
        }

        boolean pourWater(State s, int person, int clock, int sips) {
            if (!isPerson(person) || !isClock(clock) || sips < 1 || sips > MOST_SIPS) {
                return false;
            }
            if (s.where[person] != sites[clock] || s.water[person] < sips || s.has[clock] + sips > holds[clock]) {
                return false;
            }
            s.water[person] -= sips;
            s.has[clock] += sips;
            return true;
        }

        boolean walk(State s, int person, int place) {
            if (!isPerson(person) || !isPlace(place) || step(s.where[person], place) == 0) {
                return false;
            }
            int many = step(s.where[person], place);
            for (int i = 0; i < many; i++) {
                passHour(s);
            }
            s.where[person] = place;
            return true;
        }

        boolean robClock(State s, int clock, int sips) {
            if (!isClock(clock) || sips < 1 || sips > MOST_SIPS || s.has[clock] < sips) {
                return false;
            }
            s.has[clock] -= sips;
            return true;
        }

        int worksInTime(State s) {
            int many = 0;
            for (int w = 0; w < works; w++) {
                many += s.done[w] == IN_TIME ? 1 : 0;
            }
            return many;
        }

        int paid(State s) {
            int sum = 0;
            for (int w = 0; w < works; w++) {
                sum += s.done[w] == IN_TIME ? pays[w] : 0;
            }
            return sum;
        }

        /** Works missed or done late, as bits. */
        int badWorks(State s) {
            int bits = 0;
            for (int w = 0; w < works; w++) {
                if (s.done[w] == TOO_LATE || s.done[w] == MISSED) {
                    bits |= 1 << w;
                }
            }
            return bits;
        }

        int dryHours(State s) {
            int sum = 0;
            for (int p = 0; p < people; p++) {
                sum += s.dry[p];
            }
            return sum;
        }

        int sipsInAll(State s) {
            int sum = 0;
            for (int i = 0; i < places; i++) {
                sum += s.wells[i];
            }
            for (int i = 0; i < clocks; i++) {
                sum += s.has[i];
            }
            for (int i = 0; i < people; i++) {
                sum += s.water[i];
            }
            return sum;
        }
    }

    /** The DAYS: of each line what is done, by or to whom, where or to what, how much. */
    private static final class Days {
        static final int HOUR = 0;
        static final int POUR = 1;
        static final int DRAW = 2;
        static final int GO = 3;
        static final int STEAL = 4;

        int many;
        final int[] deeds = new int[MOST_LINES];
        final int[] whose = new int[MOST_LINES];
        final int[] whither = new int[MOST_LINES];
        final int[] sizes = new int[MOST_LINES];

        void copyFrom(Days other) {
            many = other.many;
            System.arraycopy(other.deeds, 0, deeds, 0, MOST_LINES);
            System.arraycopy(other.whose, 0, whose, 0, MOST_LINES);
            System.arraycopy(other.whither, 0, whither, 0, MOST_LINES);
            System.arraycopy(other.sizes, 0, sizes, 0, MOST_LINES);
        }

        void add(int deed, int who, int to, int size) {
            if (many < MOST_LINES) {
                deeds[many] = deed;
                whose[many] = who;
                whither[many] = to;
                sizes[many] = size;
                many++;
            }
        }

        /** False where the line can't be: then nothing is changed. */
        boolean follow(Post post, State s, int line) {
            switch (deeds[line]) {
                case HOUR:
                    post.passHours(s, sizes[line]);
                    return true;
                case POUR: return post.pourWater(s, whose[line], whither[line], sizes[line]);
                case DRAW: return post.drawWater(s, whose[line], sizes[line]);
                case GO: return post.walk(s, whose[line], whither[line]);
                default: return post.robClock(s, whither[line], sizes[line]);
            }
        }
    }

    /** Reads the TAPE; its steps answer false as soon as there is a FAULT. */
    private static final class Reader {
        private static final int CANT_STAND = 1;
        private static final int NOT_TOLD = 2;
        private static final int TOLD_ALREADY = 3;
        private static final int BAD_NUMBER = 4;
        private static final int TOO_MANY = 5;

        private final Tape tape;
        private Post post;
        private Days days;
        private int fault;
        private boolean thirstTold;
        /** The NUMBER, or what the NAME names, that was read last. */
        private int found;

        Reader(Tape tape) {
            this.tape = tape;
        }

        int readPost(Post draft) {
            post = draft;
            post.clear();
            thirstTold = false;
            fault = 0;
            tape.begin();
            for (int i = 0; i < MOST_SIGNS && tape.sort != Tape.END; i++) {
                if (!postLine()) {
                    return fault;
                }
            }
            post.findShortest();
            return fault;
        }

        int readDays(Post told, Days draft) {
            post = told;
            days = draft;
            days.many = 0;
            fault = 0;
            tape.begin();
            for (int i = 0; i < MOST_SIGNS && tape.sort != Tape.END; i++) {
                if (!daysLine()) {
                    return fault;
                }
            }
            return fault;
        }

        private boolean wrong(int kind) {
            fault = kind + 16 * tape.place;
            return false;
        }

        private boolean word(Word due) {
            if (tape.word != due) {
                return wrong(CANT_STAND);
            }
            tape.advance();
            return true;
        }

        private boolean sign(char due) {
            if (tape.sort != Tape.SIGN || tape.sign != due) {
                return wrong(CANT_STAND);
            }
            tape.advance();
            return true;
        }

        private boolean number(int least, int most) {
            if (tape.sort != Tape.NUMBER) {
                return wrong(CANT_STAND);
            }
            if (tape.number < least || tape.number > most) {
                return wrong(BAD_NUMBER);
            }
            found = tape.number;
            tape.advance();
            return true;
        }

        private boolean newName(int at) {
            if (!tape.isName()) {
                return wrong(CANT_STAND);
            }
            if (indexOfName(0, Post.NAMES) >= 0) {
                return wrong(TOLD_ALREADY);
            }
            post.names[at] = tape.spelt;
            tape.advance();
            return true;
        }

        private boolean toldName(int from, int many) {
            if (!tape.isName()) {
                return wrong(CANT_STAND);
            }
            found = indexOfName(from, many);
            if (found < 0) {
                return wrong(NOT_TOLD);
            }
            tape.advance();
            return true;
        }

        private int indexOfName(int from, int many) {
            for (int i = 0; i < many; i++) {
                if (post.names[from + i] == tape.spelt) {
                    return i;
                }
            }
            return NONE;
        }

        private boolean kindOfClock() {
            int kind = tape.word == Word.PLAIN ? 0 : tape.word == Word.OLD ? OLD
                    : tape.word == Word.MILK ? MILK : tape.word == Word.DEW ? DEW : NONE;
            if (kind < 0) {
                return wrong(CANT_STAND);
            }
            found = kind;
            tape.advance();
            return true;
        }

        private boolean postLine() {
            Word begins = tape.word;
            if (begins == Word.PLACE) {
                return placeLine();
            }
            if (begins == Word.WAY) {
                return wayLine();
            }
            if (begins == Word.CLOCK) {
                return clockLine();
            }
            if (begins == Word.PERSON) {
                return personLine();
            }
            if (begins == Word.WORK) {
                return workLine();
            }
            if (begins == Word.HEAT) {
                return heatLine();
            }
            return begins == Word.THIRST ? thirstLine() : wrong(CANT_STAND);
        }

        private boolean placeLine() {
            int p = post.places;
            if (p >= MOST_PLACES) {
                return wrong(TOO_MANY);
            }
            tape.advance();
            if (!newName(Post.PLACE_NAMES + p) || !word(Word.WELL) || !number(0, MOST_WATER)) {
                return false;
            }
            post.first.wells[p] = found;
            post.places++;
            return sign(';');
        }

        private boolean wayLine() {
            tape.advance();
            if (!toldName(Post.PLACE_NAMES, post.places)) {
                return false;
            }
            int from = found;
            if (!otherEnd(from)) {
                return false;
            }
            int to = found;
            if (!number(1, 9)) {
                return false;
            }
            post.addWay(from, to, found);
            return sign(';');
        }

        private boolean otherEnd(int from) {
            if (!tape.isName()) {
                return wrong(CANT_STAND);
            }
            int to = indexOfName(Post.PLACE_NAMES, post.places);
            if (to < 0) {
                return wrong(NOT_TOLD);
            }
            if (to == from || post.step(from, to) != 0) {
                return wrong(TOLD_ALREADY);
            }
            found = to;
            tape.advance();
            return true;
        }

        private boolean clockLine() {
            int c = post.clocks;
            if (c >= MOST_CLOCKS) {
                return wrong(TOO_MANY);
            }
            tape.advance();
            if (!newName(Post.CLOCK_NAMES + c) || !kindOfClock()) {
                return false;
            }
            post.kinds[c] = found;
            if (!word(Word.AT) || !toldName(Post.PLACE_NAMES, post.places)) {
                return false;
            }
            post.sites[c] = found;
            if (!word(Word.HOLDS) || !number(1, MOST_SIPS)) {
                return false;
            }
            post.holds[c] = found;
            if (!word(Word.HAS) || !number(0, post.holds[c])) {
                return false;
            }
            post.first.has[c] = found;
            if (!word(Word.SIPS) || !number(0, 9)) {
                return false;
            }
            post.sips[c] = found;
            post.clocks++;
            return sign(';');
        }

        private boolean personLine() {
            int p = post.people;
            if (p >= MOST_PEOPLE) {
                return wrong(TOO_MANY);
            }
            tape.advance();
            if (!newName(Post.PERSON_NAMES + p) || !word(Word.AT) || !toldName(Post.PLACE_NAMES, post.places)) {
                return false;
            }
            post.first.where[p] = found;
            if (!word(Word.SIPS) || !number(0, 9)) {
                return false;
            }
            post.drinks[p] = found;
            if (!word(Word.HAS) || !number(0, MOST_SIPS)) {
                return false;
            }
            post.first.water[p] = found;
            post.people++;
            return sign(';');
        }

        private boolean workLine() {
            int w = post.works;
            if (w >= MOST_WORKS) {
                return wrong(TOO_MANY);
            }
            tape.advance();
            if (!newName(Post.WORK_NAMES + w) || !word(Word.BY) || !toldName(Post.PERSON_NAMES, post.people)) {
                return false;
            }
            post.doers[w] = found;
            if (!word(Word.CLOCK) || !toldName(Post.CLOCK_NAMES, post.clocks)) {
                return false;
            }
            post.timers[w] = found;
            if (!word(Word.HOUR) || !number(1, 99)) {
                return false;
            }
            post.dues[w] = found;
            if (!word(Word.PAYS) || !number(0, 99)) {
                return false;
            }
            post.pays[w] = found;
            post.works++;
            return sign(';');
        }

        private boolean heatLine() {
            tape.advance();
            if (!number(0, DAY - 1)) {
                return false;
            }
            int from = found;
            if (!word(Word.TO) || !number(from, DAY - 1)) {
                return false;
            }
            int to = found;
            if (!number(0, 9)) {
                return false;
            }
            for (int h = from; h <= to; h++) {
                post.heats[h] = found;
            }
            return sign(';');
        }

        private boolean thirstLine() {
            if (thirstTold) {
                return wrong(TOLD_ALREADY);
            }
            thirstTold = true;
            tape.advance();
            post.law.beNothing();
            return expression(0) && sign(';');
        }

        private boolean expression(int within) {
            if (!test(within)) {
                return false;
            }
            for (int i = 0; i < MOST_SIGNS; i++) {
                int code = tape.word == Word.AND ? Law.AND : tape.word == Word.OR ? Law.OR : 0;
                if (code == 0) {
                    break;
                }
                tape.advance();
                if (!test(within)) {
                    return false;
                }
                post.law.add(code);
            }
            return true;
        }

        private boolean test(int within) {
            if (!sum(within)) {
                return false;
            }
            int code = tape.sign == '<' ? Law.LESS : tape.sign == '=' ? Law.SAME : 0;
            if (code == 0) {
                return true;
            }
            tape.advance();
            if (!sum(within)) {
                return false;
            }
            post.law.add(code);
            return true;
        }

        private boolean sum(int within) {
            if (!product(within)) {
                return false;
            }
            for (int i = 0; i < MOST_SIGNS; i++) {
                int code = tape.sign == '+' ? Law.PLUS : tape.sign == '-' ? Law.MINUS : 0;
                if (code == 0) {
                    break;
                }
                tape.advance();
                if (!product(within)) {
                    return false;
                }
                post.law.add(code);
            }
            return true;
        }

        private boolean product(int within) {
            if (!part(within)) {
                return false;
            }
            for (int i = 0; i < MOST_SIGNS && tape.sign == '*'; i++) {
                tape.advance();
                if (!part(within)) {
                    return false;
                }
                post.law.add(Law.TIMES);
            }
            return true;
        }

        private boolean part(int within) {
            boolean plain = tape.sort == Tape.NUMBER || factCode() != 0;
            boolean denied = tape.word == Word.NOT;
            if (!plain && !denied && tape.sign != '(') {
                return wrong(CANT_STAND);
            }
            if (within >= MOST_WITHIN) {
                return wrong(TOO_MANY);
            }
            if (plain) {
                post.law.add(tape.sort == Tape.NUMBER ? tape.number : factCode());
                tape.advance();
                return true;
            }
            tape.advance();
            if (!denied) {
                return expression(within + 1) && sign(')');
            }
            if (!part(within + 1)) {
                return false;
            }
            post.law.add(Law.NOT);
            return true;
        }

        private int factCode() {
            return tape.word == Word.BASE ? Law.BASE : tape.word == Word.HOT ? Law.HOT
                    : tape.word == Word.KIND ? Law.KIND : tape.word == Word.SHOWN ? Law.SHOWN : 0;
        }

        private boolean daysLine() {
            Word begins = tape.word;
            boolean known = begins == Word.HOUR || begins == Word.POUR || begins == Word.DRAW
                    || begins == Word.GO || begins == Word.STEAL;
            if (!known) {
                return wrong(CANT_STAND);
            }
            if (days.many >= MOST_LINES) {
                return wrong(TOO_MANY);
            }
            tape.advance();
            if (begins == Word.HOUR) {
                return hourLine();
            }
            if (begins == Word.STEAL) {
                return clockDeed(Days.STEAL, NONE);
            }
            if (!toldName(Post.PERSON_NAMES, post.people)) {
                return false;
            }
            int who = found;
            if (begins == Word.POUR) {
                return clockDeed(Days.POUR, who);
            }
            return begins == Word.DRAW ? drawLine(who) : goLine(who);
        }

        private boolean hourLine() {
            if (!number(1, DAY)) {
                return false;
            }
            days.add(Days.HOUR, NONE, NONE, found);
            return sign(';');
        }

        /** Behind steal the CLOCK comes first, behind pour it comes second: the rest is the same. */
        private boolean clockDeed(int deed, int who) {
            if (!toldName(Post.CLOCK_NAMES, post.clocks)) {
                return false;
            }
            int clock = found;
            if (!number(1, MOST_SIPS)) {
                return false;
            }
            days.add(deed, who, clock, found);
            return sign(';');
        }

        private boolean drawLine(int who) {
            if (!number(1, MOST_SIPS)) {
                return false;
            }
            days.add(Days.DRAW, who, NONE, found);
            return sign(';');
        }

        private boolean goLine(int who) {
            if (!toldName(Post.PLACE_NAMES, post.places)) {
                return false;
            }
            days.add(Days.GO, who, found, 0);
            return sign(';');
        }
    }

    /** What is SAID by CLOCKS and TOLD of cups. */
    private static final class Heard {
        private static final int LAST_HOUR = 1098;

        int said;
        private final int[] shows = new int[MOST_SAID];
        private final int[] offs = new int[MOST_SAID];
        int told;
        private final int[] heats = new int[MOST_TOLD];
        private final int[] drunk = new int[MOST_TOLD];

        void copyFrom(Heard other) {
            said = other.said;
            System.arraycopy(other.shows, 0, shows, 0, MOST_SAID);
            System.arraycopy(other.offs, 0, offs, 0, MOST_SAID);
            told = other.told;
            System.arraycopy(other.heats, 0, heats, 0, MOST_TOLD);
            System.arraycopy(other.drunk, 0, drunk, 0, MOST_TOLD);
        }

        boolean addSaid(int show, int off) {
            if (said >= MOST_SAID) {
                return false;
            }
            shows[said] = show;
            offs[said] = off;
            said++;
            return true;
        }

        boolean addTold(int heat, int sips) {
            if (told >= MOST_TOLD) {
                return false;
            }
            heats[told] = heat;
            drunk[told] = sips;
            told++;
            return true;
        }

        int trueHours(int what) {
            int most = -1;
            int many = 0;
            int from = 0;
            int to = 0;
            for (int h = 0; h <= LAST_HOUR; h++) {
                int so = soAt(h);
                if (so > most) {
                    most = so;
                    many = 0;
                    from = h;
                    to = h - 1;
                }
                if (so == most) {
                    many++;
                    to = to == h - 1 ? h : to;
                }
            }
            return what == 0 ? many : what == 1 ? from : what == 2 ? to : said - most;
        }

        private int soAt(int hour) {
            int so = 0;
            for (int i = 0; i < said; i++) {
                so += Math.abs(shows[i] - hour) <= offs[i] ? 1 : 0;
            }
            return so;
        }

        boolean fits(int a, int b) {
            for (int i = 0; i < told; i++) {
                if (a + b * heats[i] != drunk[i]) {
                    return false;
                }
            }
            return true;
        }
    }

    /** What a MARK holds, and what is now. */
    private static final class Store {
        final State state = new State();
        final Days days = new Days();
        final Heard heard = new Heard();

        void copyFrom(Store other) {
            state.copyFrom(other.state);
            days.copyFrom(other.days);
            heard.copyFrom(other.heard);
        }
    }

    /** What comes when hours pass, tried on copies. */
    private static final class Ahead {
        private static final long DRAW_TIMES = 1103515245L;
        private static final long DRAW_MORE = 12345L;
        private static final long DRAW_ROOM = 2147483648L;

        private final State trial = new State();
        private final State robbed = new State();
        private long drawn;

        int judge(Post post, Days days, int what) {
            int cannot = NONE;
            int bad = NONE;
            trial.copyFrom(post.first);
            for (int line = 0; line < days.many; line++) {
                if (!days.follow(post, trial, line) && cannot < 0) {
                    cannot = line;
                }
                if (bad < 0 && post.badWorks(trial) != 0) {
                    bad = line;
                }
            }
            return what == 0 ? cannot : what == 1 ? bad : post.paid(trial);
        }

        int shownBehind(Post post, State now, int clock, int many) {
            trial.copyClock(now, clock);
            for (int i = 0; i < many; i++) {
                post.passClock(trial, clock);
                trial.hour++;
            }
            return trial.shown[clock];
        }

        int firstStill(Post post, State now, int clock) {
            trial.copyClock(now, clock);
            for (int i = 0; i <= FAR; i++) {
                post.passClock(trial, clock);
                trial.hour++;
                if (trial.still[clock] == 1) {
                    return i;
                }
            }
            return NONE;
        }

        int lateWorks(Post post, State now, int many, boolean firstAlone) {
            int known = post.badWorks(now);
            int bits = 0;
            trial.copyFrom(now);
            for (int i = 0; i < many; i++) {
                post.passHour(trial);
                bits = post.badWorks(trial) & ~known;
                if (firstAlone && bits != 0) {
                    return lowestBit(bits);
                }
            }
            return firstAlone ? NONE : bits;
        }

        private static int lowestBit(int bits) {
            for (int i = 0; i < MOST_WORKS; i++) {
                if ((bits >> i & 1) == 1) {
                    return i;
                }
            }
            return NONE;
        }

        /** Ways in which just so many legs take two hours, of 10 to the power of the legs. */
        private static long waysOfTwo(int legs, int two, int chance) {
            long ways = 1;
            for (int i = 0; i < two; i++) {
                ways = ways * (legs - i) / (i + 1);
            }
            for (int i = 0; i < legs; i++) {
                ways *= i < two ? chance : 10 - chance;
            }
            return ways;
        }

        int sealedSips(Post post, int clock, int legs, int chance, int millionths) {
            long all = 1;
            for (int i = 0; i < legs; i++) {
                all *= 10;
            }
            long enough = 0;
            for (int two = 0; two <= legs; two++) {
                if (enough * 1000000L / all >= millionths) {
                    return two == 0 ? 0 : post.need(clock, 0, 0, legs + two - 1);
                }
                enough += waysOfTwo(legs, two, chance);
            }
            return post.need(clock, 0, 0, 2 * legs);
        }

        int thefts(Post post, int clock, int shown, int many, int what) {
            int pairs = 0;
            int from = NONE;
            int to = NONE;
            trial.copyClock(post.first, clock);
            for (int h = 0; h < many; h++) {
                int found = theftsNow(post, clock, shown, many);
                pairs += found;
                if (found > 0) {
                    from = from < 0 ? h : from;
                    to = h;
                }
                post.passClock(trial, clock);
                trial.hour++;
            }
            return what == 0 ? pairs : what == 1 ? from : to;
        }

        /** Thefts ahead of the trial's hour; what a few sips more would not change is counted at once. */
        private int theftsNow(Post post, int clock, int shown, int many) {
            int found = 0;
            int left = 0;
            int most = trial.has[clock];
            for (int i = 0; i <= MOST_SIPS && left < most; i++) {
                robbed.copyClock(trial, clock);
                robbed.has[clock] = left;
                int alike = 1 + Math.min(goRobbed(post, clock, shown, many), most - left - 1);
                if (robbed.shown[clock] == shown && robbed.still[clock] == 1) {
                    found += alike;
                }
                left += alike;
            }
            return found;
        }

        /**
         * The robbed CLOCK goes to the last hour, or till it shows too much; how many sips more it
         * could have had and yet gone and stood still in just the same hours.
         */
        private int goRobbed(Post post, int clock, int shown, int many) {
            int spare = MOST_SIPS;
            int from = robbed.hour;
            for (int h = from; h < many && robbed.shown[clock] <= shown; h++) {
                post.gatherDew(robbed, clock);
                int thirst = post.thirst(clock, h, robbed.shown[clock]);
                if (robbed.has[clock] < thirst) {
                    spare = Math.min(spare, thirst - 1 - robbed.has[clock]);
                }
                post.drinkOrStand(robbed, clock, thirst);
                robbed.hour++;
            }
            return spare;
        }

        private int drawBelow(int bound) {
            drawn = (drawn * DRAW_TIMES + DRAW_MORE) % DRAW_ROOM;
            return bound < 1 ? 0 : (int) (drawn / 65536 % bound);
        }

        int drawnYears(Post post, State now, int seed, int many, int what) {
            trial.copyFrom(now);
            drawn = seed;
            for (int i = 0; i < many; i++) {
                int lot = drawBelow(20);
                if (lot == 0) {
                    rain(post);
                } else if (lot == 1 && post.clocks > 0) {
                    int clock = drawBelow(post.clocks);
                    trial.has[clock] -= trial.has[clock] / 2;
                }
                post.passHour(trial);
            }
            if (what == 0) {
                return post.paid(trial) - post.paid(now);
            }
            return what == 1 ? post.dryHours(trial) - post.dryHours(now) : stillOnes(post);
        }

        private void rain(Post post) {
            for (int c = 0; c < post.clocks; c++) {
                trial.has[c] = post.holds[c];
            }
        }

        private int stillOnes(Post post) {
            int many = 0;
            for (int c = 0; c < post.clocks; c++) {
                many += trial.still[c];
            }
            return many;
        }
    }

    /** What is best, or fits, of all that could be chosen. */
    private static final class Choice {
        private static final int LAST_DUE = 99;
        private static final int PRICES = 10;
        private static final int FACTORS = 10;
        /** More than any law can say: 9 + 9 * 9. */
        private static final int SAYINGS = 91;

        private final Ahead ahead;
        private final int[] thirstTo = new int[MOST_CLOCKS * (LAST_DUE + 1)];
        private final int[] clockLast = new int[MOST_CLOCKS];
        private final int[] personLast = new int[MOST_PEOPLE];
        private int siegePay;
        private final int[] deadlines = new int[MOST_PLACES];
        private final int[] order = new int[MOST_PLACES];
        private final int[] bestOrder = new int[MOST_PLACES];
        private int stations;
        private int soonest;
        private final int[] sayings = new int[SAYINGS];
        private final int[] needs = new int[MOST_CLOCKS];
        private final int[] loads = new int[MOST_CLOCKS];
        private int fewest;
        private int firstCup;
        private final int[] gains = new int[PRICES * PRICES];
        private final int[] otherGains = new int[PRICES * PRICES];

        Choice(Ahead ahead) {
            this.ahead = ahead;
        }

        int besieged(Post post, int water, int what) {
            sumThirsts(post);
            int most = -1;
            int clocks = 0;
            int people = 0;
            for (int c = 0; c < 1 << post.clocks; c++) {
                for (int p = 0; p < 1 << post.people; p++) {
                    if (siegeCost(post, c, p) <= water && siegePay > most) {
                        most = siegePay;
                        clocks = c;
                        people = p;
                    }
                }
            }
            return what == 0 ? most : what == 1 ? clocks : people;
        }

        private void sumThirsts(Post post) {
            for (int c = 0; c < post.clocks; c++) {
                int row = c * (LAST_DUE + 1);
                thirstTo[row] = 0;
                for (int h = 0; h < LAST_DUE; h++) {
                    thirstTo[row + h + 1] = thirstTo[row + h] + post.thirst(c, h, h);
                }
            }
        }

        /** What the works of these cost; what they pay is left in siegePay. */
        private int siegeCost(Post post, int clocks, int people) {
            siegePay = 0;
            for (int c = 0; c < MOST_CLOCKS; c++) {
                clockLast[c] = 0;
            }
            for (int p = 0; p < MOST_PEOPLE; p++) {
                personLast[p] = 0;
            }
            for (int w = 0; w < post.works; w++) {
                int c = post.timers[w];
                int p = post.doers[w];
                if ((clocks >> c & 1) == 1 && (people >> p & 1) == 1 && post.kinds[c] != MILK) {
                    clockLast[c] = Math.max(clockLast[c], post.dues[w]);
                    personLast[p] = Math.max(personLast[p], post.dues[w]);
                    siegePay += post.pays[w];
                }
            }
            int cost = 0;
            for (int c = 0; c < post.clocks; c++) {
                cost += clockLast[c] == 0 ? 0 : thirstTo[c * (LAST_DUE + 1) + clockLast[c]];
            }
            for (int p = 0; p < post.people; p++) {
                cost += post.drinks[p] * personLast[p];
            }
            return cost;
        }

        int bestRound(Post post, State now, int person, int what) {
            stations = 0;
            for (int p = 0; p < MOST_PLACES; p++) {
                deadlines[p] = NONE;
            }
            for (int c = 0; c < post.clocks; c++) {
                setDeadline(post.sites[c], ahead.firstStill(post, now, c));
            }
            soonest = NONE;
            goOn(post, now.where[person], 0, 0, 0);
            if (soonest < 0 || what > stations) {
                return NONE;
            }
            return what < 1 ? soonest : bestOrder[what - 1];
        }

        private void setDeadline(int place, int hour) {
            if (hour < 0) {
                return;
            }
            if (deadlines[place] < 0) {
                stations++;
                deadlines[place] = hour;
            } else {
                deadlines[place] = Math.min(deadlines[place], hour);
            }
        }

        /** Orders come the first ones first, so that only a sooner end is a better one. */
        private void goOn(Post post, int at, int hour, int been, int many) {
            if (many >= stations || many >= MOST_PLACES) {
                if (soonest < 0 || hour < soonest) {
                    soonest = hour;
                    System.arraycopy(order, 0, bestOrder, 0, MOST_PLACES);
                }
                return;
            }
            for (int p = 0; p < post.places; p++) {
                int step = post.shortest(at, p);
                boolean open = deadlines[p] >= 0 && (been >> p & 1) == 0;
                if (open && step >= 0 && hour + step <= deadlines[p]) {
                    order[many] = p;
                    goOn(post, p, hour + step, been | 1 << p, many + 1);
                }
            }
        }

        int lawsOf(Heard heard, int what) {
            int many = 0;
            int first = NONE;
            for (int i = 0; i < FACTORS * FACTORS; i++) {
                if (heard.fits(i / FACTORS, i % FACTORS)) {
                    many++;
                    first = first < 0 ? i : first;
                }
            }
            return what == 0 ? many : what == 1 ? first : tellingHeat(heard, many);
        }

        private int tellingHeat(Heard heard, int many) {
            int least = many;
            int heat = NONE;
            for (int h = 0; h <= 9; h++) {
                int alike = mostAlike(heard, h);
                if (alike < least) {
                    least = alike;
                    heat = h;
                }
            }
            return heat;
        }

        private int mostAlike(Heard heard, int heat) {
            for (int i = 0; i < SAYINGS; i++) {
                sayings[i] = 0;
            }
            int most = 0;
            for (int i = 0; i < FACTORS * FACTORS; i++) {
                if (heard.fits(i / FACTORS, i % FACTORS)) {
                    int says = i / FACTORS + i % FACTORS * heat;
                    if (says < SAYINGS) {
                        sayings[says]++;
                        most = Math.max(most, sayings[says]);
                    }
                }
            }
            return most;
        }

        int fewestCups(Post post, State now, int holds, int hours, int what) {
            for (int c = 0; c < post.clocks; c++) {
                needs[c] = post.need(c, now.hour, now.shown[c], hours);
                loads[c] = 0;
                if (needs[c] > holds) {
                    return NONE;
                }
            }
            fewest = MOST_CLOCKS + 1;
            firstCup = 0;
            fillCups(post.clocks, holds, 0, 0, 0);
            return what == 0 ? fewest : firstCup;
        }

        /** Rows of cups come the first ones first, so that only fewer cups are better. */
        private void fillCups(int clocks, int holds, int clock, int used, int withFirst) {
            if (clock >= clocks || clock >= MOST_CLOCKS) {
                if (used < fewest) {
                    fewest = used;
                    firstCup = withFirst;
                }
                return;
            }
            for (int cup = 0; cup <= used && cup < MOST_CLOCKS; cup++) {
                if (loads[cup] + needs[clock] <= holds) {
                    int bit = cup == 0 ? 1 << clock : 0;
                    loads[cup] += needs[clock];
                    fillCups(clocks, holds, clock + 1, Math.max(used, cup + 1), withFirst | bit);
                    loads[cup] -= needs[clock];
                }
            }
        }

        /** NONE where there is no such one. */
        int restingPrices(Post post, State now, int one, int other, int what) {
            for (int i = 0; i < PRICES * PRICES; i++) {
                sell(post, now, one, other, i);
            }
            int many = 0;
            for (int i = 0; i < PRICES * PRICES; i++) {
                if (isAtRest(i)) {
                    if (many == what) {
                        return i;
                    }
                    many++;
                }
            }
            return what == NONE ? many : NONE;
        }

        private void sell(Post post, State now, int one, int other, int prices) {
            int sold = 0;
            int otherSold = 0;
            for (int p = 0; p < post.people; p++) {
                int there = post.shortest(now.where[p], one);
                int thither = post.shortest(now.where[p], other);
                int cost = there + prices / PRICES;
                int otherCost = thither + prices % PRICES;
                if (there >= 0 && (thither < 0 || cost <= otherCost)) {
                    sold += post.drinks[p];
                } else if (thither >= 0) {
                    otherSold += post.drinks[p];
                }
            }
            gains[prices] = sold * (prices / PRICES);
            otherGains[prices] = otherSold * (prices % PRICES);
        }

        private boolean isAtRest(int prices) {
            int one = prices / PRICES;
            int other = prices % PRICES;
            for (int p = 0; p < PRICES; p++) {
                if (gains[p * PRICES + other] > gains[prices]) {
                    return false;
                }
                if (otherGains[one * PRICES + p] > otherGains[prices]) {
                    return false;
                }
            }
            return true;
        }
    }
}
