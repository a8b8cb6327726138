import java.math.BigInteger;
import java.util.ArrayList;
import java.util.Arrays;
import java.util.List;
import java.util.Random;

/**
 * What the document says, told a second time without any haste: all is tried, nothing is reckoned ahead.
 * A Model is a POST of random sizes and what has come of it.
 */
final class Model {
    interface Thirst {
        int of(int base, int hot, int kind, int shown);
    }

    static final int NONE = -1;
    private static final String[] KINDS = {"plain", "old", "milk", "dew"};
    private static final String[] LAWS = {"", "thirst base;", "thirst shown+hot;", "thirst (kind=1)+base*not hot;",
        "thirst base+hot*(kind<3)-shown;", "thirst 3-shown or hot;", "thirst (shown<4)*(base-hot)+1;", "thirst kind*kind+hot;"};
    private static final Thirst[] MEANT = {(b, h, k, s) -> b + h, (b, h, k, s) -> b, (b, h, k, s) -> s + h,
        (b, h, k, s) -> (k == 1 ? 1 : 0) + b * (h == 0 ? 1 : 0), (b, h, k, s) -> b + h * (k < 3 ? 1 : 0) - s,
        (b, h, k, s) -> 3 - s != 0 || h != 0 ? 1 : 0, (b, h, k, s) -> (s < 4 ? 1 : 0) * (b - h) + 1,
        (b, h, k, s) -> k * k + h};

    int places;
    int clocks;
    int people;
    int works;
    int hour;
    private int[][] way = new int[5][5];
    private int[] heat = new int[24];
    private int law;
    int[] wells = new int[5];
    int[] kind = new int[6];
    int[] at = new int[6];
    int[] holds = new int[6];
    int[] has = new int[6];
    int[] base = new int[6];
    int[] shows = new int[6];
    boolean[] still = new boolean[6];
    int[] where = new int[4];
    int[] sips = new int[4];
    int[] water = new int[4];
    int[] dry = new int[4];
    int[] by = new int[6];
    int[] clock = new int[6];
    int[] due = new int[6];
    int[] pays = new int[6];
    int[] done = new int[6];

    static Model any(Random lots) {
        Model m = new Model();
        m.places = lots.nextInt(8) == 0 ? 0 : 1 + lots.nextInt(5);
        m.clocks = m.places == 0 ? 0 : lots.nextInt(7);
        m.people = m.places == 0 ? 0 : lots.nextInt(5);
        m.works = m.clocks == 0 || m.people == 0 ? 0 : lots.nextInt(7);
        m.law = lots.nextInt(LAWS.length);
        for (int p = 0; p < m.places; p++) {
            m.wells[p] = lots.nextInt(3) * lots.nextInt(40);
            for (int q = 0; q < p; q++) {
                m.way[p][q] = m.way[q][p] = lots.nextInt(3) == 0 ? 0 : 1 + lots.nextInt(9);
            }
        }
        for (int c = 0; c < m.clocks; c++) {
            m.kind[c] = lots.nextInt(4);
            m.at[c] = lots.nextInt(m.places);
            m.holds[c] = 1 + lots.nextInt(lots.nextBoolean() ? 30 : 150);
            m.has[c] = lots.nextInt(m.holds[c] + 1);
            m.base[c] = lots.nextInt(lots.nextBoolean() ? 3 : 10);
        }
        for (int p = 0; p < m.people; p++) {
            m.where[p] = lots.nextInt(m.places);
            m.sips[p] = lots.nextInt(lots.nextBoolean() ? 3 : 10);
            m.water[p] = lots.nextInt(60);
        }
        for (int w = 0; w < m.works; w++) {
            m.by[w] = lots.nextInt(m.people);
            m.clock[w] = lots.nextInt(m.clocks);
            m.due[w] = 1 + lots.nextInt(lots.nextInt(4) == 0 ? 99 : 9);
            m.pays[w] = lots.nextInt(lots.nextBoolean() ? 3 : 100);
        }
        for (int h = 0; h < 24; h++) {
            m.heat[h] = h > 0 && lots.nextBoolean() ? m.heat[h - 1] : lots.nextInt(lots.nextBoolean() ? 2 : 5);
        }
        return m;
    }

    private static char name(char first, int i) {
        return (char) (first + i);
    }

    /** The POST: PLACES are a .., CLOCKS f .., PEOPLE l .., works p ... */
    String text() {
        StringBuilder t = new StringBuilder();
        for (int p = 0; p < places; p++) {
            t.append("place ").append(name('a', p)).append(" well ").append(wells[p]).append(';');
        }
        for (int p = 0; p < places; p++) {
            for (int q = 0; q < p; q++) {
                if (way[p][q] > 0) {
                    t.append("way ").append(name('a', p)).append(' ').append(name('a', q)).append(' ').append(way[p][q]).append(';');
                }
            }
        }
        for (int c = 0; c < clocks; c++) {
            t.append("clock ").append(name('f', c)).append(' ').append(KINDS[kind[c]]).append(" at ").append(name('a', at[c]))
                    .append(" holds ").append(holds[c]).append(" has ").append(has[c]).append(" sips ").append(base[c]).append(';');
        }
        for (int p = 0; p < people; p++) {
            t.append("person ").append(name('l', p)).append(" at ").append(name('a', where[p])).append(" sips ").append(sips[p])
                    .append(" has ").append(water[p]).append(';');
        }
        for (int w = 0; w < works; w++) {
            t.append("work ").append(name('p', w)).append(" by ").append(name('l', by[w])).append(" clock ")
                    .append(name('f', clock[w])).append(" hour ").append(due[w]).append(" pays ").append(pays[w]).append(';');
        }
        for (int h = 0; h < 24; h++) {
            int to = h;
            while (to < 23 && heat[to + 1] == heat[h]) {
                to++;
            }
            if (heat[h] > 0) {
                t.append("heat ").append(h).append(" to ").append(to).append(' ').append(heat[h]).append(';');
            }
            h = to;
        }
        return t.append(LAWS[law]).toString();
    }

    Model copy() {
        Model m = new Model();
        m.take(this);
        return m;
    }

    void take(Model o) {
        places = o.places;
        clocks = o.clocks;
        people = o.people;
        works = o.works;
        hour = o.hour;
        law = o.law;
        way = o.way;
        heat = o.heat;
        kind = o.kind;
        at = o.at;
        holds = o.holds;
        base = o.base;
        sips = o.sips;
        by = o.by;
        clock = o.clock;
        due = o.due;
        pays = o.pays;
        wells = o.wells.clone();
        has = o.has.clone();
        shows = o.shows.clone();
        still = o.still.clone();
        where = o.where.clone();
        water = o.water.clone();
        dry = o.dry.clone();
        done = o.done.clone();
    }

    int thirst(int c, int h, int shown) {
        int e = MEANT[law].of(base[c], heat[h % 24], kind[c], shown);
        e = e < 0 ? 0 : e > 99 ? 99 : e;
        return kind[c] == 2 ? e / 2 + e % 2 : e;
    }

    private int needs(int c, int from, int shown, int hours) {
        int sum = 0;
        for (int h = from; h < from + hours; h++) {
            sum += thirst(c, h, shown);
            if (kind[c] != 2 || h % 2 == 1) {
                shown++;
            }
        }
        return sum;
    }

    void pass() {
        for (int c = 0; c < clocks; c++) {
            if (kind[c] == 3 && hour % 24 < 6 && has[c] + 1 <= holds[c]) {
                has[c] = has[c] + 1;
            }
            int drinks = thirst(c, hour, shows[c]);
            still[c] = drinks > has[c];
            if (!still[c]) {
                has[c] = has[c] - drinks;
                if (kind[c] != 2 || hour % 2 != 0) {
                    shows[c] = shows[c] + 1;
                }
            }
            if (kind[c] == 1 && has[c] != 0) {
                has[c] = has[c] - 1;
            }
        }
        boolean[] thirsty = new boolean[people];
        for (int p = 0; p < people; p++) {
            thirsty[p] = sips[p] > water[p];
            dry[p] += thirsty[p] ? 1 : 0;
            water[p] -= thirsty[p] ? 0 : sips[p];
        }
        hour++;
        for (int w = 0; w < works; w++) {
            if (done[w] == 0 && shows[clock[w]] == due[w]) {
                done[w] = thirsty[by[w]] ? 3 : due[w] == hour ? 1 : 2;
            }
        }
    }

    Model behind(int hours) {
        Model m = copy();
        for (int i = 0; i < hours; i++) {
            m.pass();
        }
        return m;
    }

    int draw(int p, int much) {
        if (p < 0 || p >= people || much < 1 || much > 999 || wells[where[p]] < much || water[p] + much > 999) {
            return NONE;
        }
        wells[where[p]] -= much;
        return water[p] += much;
    }

    int pour(int p, int c, int much) {
        if (p < 0 || p >= people || c < 0 || c >= clocks || much < 1 || much > 999) {
            return NONE;
        }
        if (where[p] != at[c] || water[p] < much || has[c] + much > holds[c]) {
            return NONE;
        }
        water[p] -= much;
        return has[c] += much;
    }

    int go(int p, int to) {
        if (p < 0 || p >= people || to < 0 || to >= places || way[where[p]][to] == 0) {
            return NONE;
        }
        take(behind(way[where[p]][to]));
        where[p] = to;
        return hour;
    }

    int steal(int c, int much) {
        if (c < 0 || c >= clocks || much < 1 || much > 999 || has[c] < much) {
            return NONE;
        }
        return has[c] -= much;
    }

    int paid() {
        int sum = 0;
        for (int w = 0; w < works; w++) {
            sum += done[w] == 1 ? pays[w] : 0;
        }
        return sum;
    }

    private int dryInAll() {
        return Arrays.stream(dry).sum();
    }

    /** The fewest hours, by all ways of up to five steps. */
    int far(int from, int to) {
        return far(from, to, 5);
    }

    private int far(int from, int to, int steps) {
        int best = from == to ? 0 : NONE;
        for (int p = 0; p < places && steps > 0 && from != to; p++) {
            int rest = way[from][p] == 0 ? NONE : far(p, to, steps - 1);
            if (rest >= 0 && (best < 0 || rest + way[from][p] < best)) {
                best = rest + way[from][p];
            }
        }
        return best;
    }

    int stops(int c) {
        Model m = copy();
        for (int h = 0; h <= 240; h++) {
            m.pass();
            if (m.still[c]) {
                return h;
            }
        }
        return NONE;
    }

    int late(int hours, boolean first) {
        int bits = 0;
        Model m = copy();
        for (int h = 0; h < hours; h++) {
            m.pass();
            for (int w = 0; w < works; w++) {
                if (done[w] == 0 && m.done[w] > 1 && (bits >> w & 1) == 0) {
                    if (first) {
                        return w;
                    }
                    bits |= 1 << w;
                }
            }
        }
        return first ? NONE : bits;
    }

    /** The most, CLOCKS, PEOPLE. */
    int[] siege(int water) {
        int[] best = {-1, 0, 0};
        for (int set = 0; set < 1 << clocks; set++) {
            for (int who = 0; who < 1 << people; who++) {
                int pay = 0;
                int[] lastOfClock = new int[clocks];
                int[] lastOfPerson = new int[people];
                for (int w = 0; w < works; w++) {
                    if ((set & 1 << clock[w]) != 0 && (who & 1 << by[w]) != 0 && kind[clock[w]] != 2) {
                        pay += pays[w];
                        lastOfClock[clock[w]] = Math.max(due[w], lastOfClock[clock[w]]);
                        lastOfPerson[by[w]] = Math.max(due[w], lastOfPerson[by[w]]);
                    }
                }
                int cost = 0;
                for (int h = 0; h < 99; h++) {
                    for (int c = 0; c < clocks; c++) {
                        cost += h < lastOfClock[c] ? thirst(c, h, h) : 0;
                    }
                    for (int p = 0; p < people; p++) {
                        cost += h < lastOfPerson[p] ? sips[p] : 0;
                    }
                }
                if (cost <= water && pay > best[0]) {
                    best = new int[] {pay, set, who};
                }
            }
        }
        return best;
    }

    /** In how many hours it ends, then its PLACES; null if there is none. */
    int[] round(int person) {
        List<Integer> todo = new ArrayList<>();
        int[] latest = new int[places];
        Arrays.fill(latest, NONE);
        for (int c = 0; c < clocks; c++) {
            int stop = stops(c);
            if (stop >= 0) {
                latest[at[c]] = latest[at[c]] < 0 ? stop : Math.min(latest[at[c]], stop);
            }
        }
        for (int p = 0; p < places; p++) {
            if (latest[p] >= 0) {
                todo.add(p);
            }
        }
        int[] best = null;
        for (List<Integer> order : orders(todo)) {
            int time = 0;
            int here = where[person];
            boolean can = true;
            for (int p : order) {
                int step = far(here, p);
                time += step;
                can &= step >= 0 && time <= latest[p];
                here = p;
            }
            if (can && (best == null || time < best[0])) {
                best = new int[order.size() + 1];
                best[0] = time;
                for (int i = 0; i < order.size(); i++) {
                    best[i + 1] = order.get(i);
                }
            }
        }
        return best;
    }

    private static List<List<Integer>> orders(List<Integer> of) {
        List<List<Integer>> all = new ArrayList<>();
        if (of.isEmpty()) {
            all.add(new ArrayList<>());
        }
        for (Integer first : of) {
            List<Integer> rest = new ArrayList<>(of);
            rest.remove(first);
            for (List<Integer> order : orders(rest)) {
                order.add(0, first);
                all.add(order);
            }
        }
        return all;
    }

    /** By each row of legs that take an hour or two. */
    int caravan(int c, int legs, int chance, int millionths) {
        BigInteger[] ofHours = new BigInteger[2 * legs + 1];
        Arrays.fill(ofHours, BigInteger.ZERO);
        for (int row = 0; row < 1 << legs; row++) {
            int two = Integer.bitCount(row);
            ofHours[legs + two] = ofHours[legs + two].add(BigInteger.valueOf(chance).pow(two)
                    .multiply(BigInteger.valueOf(10 - chance).pow(legs - two)));
        }
        for (int much = 0; ; much++) {
            BigInteger enough = BigInteger.ZERO;
            for (int h = legs; h <= 2 * legs; h++) {
                enough = needs(c, 0, 0, h) <= much ? enough.add(ofHours[h]) : enough;
            }
            BigInteger cut = enough.multiply(BigInteger.valueOf(1000000)).divide(BigInteger.TEN.pow(legs));
            if (cut.compareTo(BigInteger.valueOf(millionths)) >= 0) {
                return much;
            }
        }
    }

    /** How many pairs, the first hour, the last one; of a Model at hour 0. */
    int[] theft(int c, int shown, int hours) {
        int[] found = {0, NONE, NONE};
        for (int h = 0; h < hours; h++) {
            for (int much = 1; much <= behind(h).has[c]; much++) {
                Model m = behind(h);
                m.has[c] -= much;
                m = m.behind(hours - h);
                if (m.shows[c] == shown && m.still[c]) {
                    found[0]++;
                    found[1] = found[1] < 0 ? h : found[1];
                    found[2] = h;
                }
            }
        }
        return found;
    }

    /** How many, CLOCKS of the first one; null if one needs more. */
    int[] cups(int hold, int hours) {
        int[] best = null;
        int rows = (int) Math.pow(6, clocks);
        int[] need = new int[clocks];
        for (int c = 0; c < clocks; c++) {
            need[c] = needs(c, hour, shows[c], hours);
        }
        for (int row = 0; row < rows; row++) {
            int[] load = new int[6];
            int used = 0;
            int first = 0;
            boolean can = true;
            for (int c = 0, rest = row, ten = rows / 6; c < clocks; c++, ten /= 6) {
                int cup = rest / ten;
                rest %= ten;
                can &= cup <= used;
                used = Math.max(used, cup + 1);
                load[cup] += need[c];
                first |= cup == 0 ? 1 << c : 0;
                can &= load[cup] <= hold;
            }
            if (can && (best == null || used < best[0])) {
                best = new int[] {used, first};
            }
        }
        return best;
    }

    private int gain(int own, int price, int other, int otherPrice, boolean first) {
        int gain = 0;
        for (int p = 0; p < people; p++) {
            int near = far(where[p], own);
            int off = far(where[p], other);
            boolean cheaper = first ? near + price <= off + otherPrice : near + price < off + otherPrice;
            gain += near >= 0 && (off < 0 || cheaper) ? price * sips[p] : 0;
        }
        return gain;
    }

    List<Integer> rests(int one, int other) {
        List<Integer> all = new ArrayList<>();
        for (int prices = 0; prices < 100; prices++) {
            boolean rests = true;
            for (int p = 0; p < 10; p++) {
                rests &= gain(one, p, other, prices % 10, true) <= gain(one, prices / 10, other, prices % 10, true);
                rests &= gain(other, p, one, prices / 10, false) <= gain(other, prices % 10, one, prices / 10, false);
            }
            if (rests) {
                all.add(prices);
            }
        }
        return all;
    }

    int[] years(int seed, int hours) {
        Model m = copy();
        long g = seed;
        for (int i = 0; i < hours; i++) {
            g = (g * 1103515245L + 12345L) % (1L << 31);
            long lot = g / 65536 % 20;
            if (lot == 0) {
                m.has = holds.clone();
            }
            if (lot == 1 && clocks > 0) {
                g = (g * 1103515245L + 12345L) % (1L << 31);
                int robbed = (int) (g / 65536 % clocks);
                m.has[robbed] -= m.has[robbed] / 2;
            }
            m.pass();
        }
        int stand = 0;
        for (int c = 0; c < clocks; c++) {
            stand += m.still[c] ? 1 : 0;
        }
        return new int[] {m.paid() - paid(), m.dryInAll() - dryInAll(), stand};
    }
}
