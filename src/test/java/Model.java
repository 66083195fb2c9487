import java.util.ArrayList;
import java.util.Arrays;
import java.util.List;

/**
 * The document written down a second time, in the plainest way and slowly: whatever can be tried is tried, nothing
 * is cut short. AgainstModel holds it beside PoleNave. Its public methods are those of PoleNave.
 */
public final class Model {
    private static final int BAD = -1, FULL = -2, FINDING = -3, STATE = -4, NONE = -9;
    private static final String LETTERS = "prlsdk";

    private int[][] rows = new int[6][];
    private byte[][] texts = new byte[4][];
    private List<int[]> deeds = new ArrayList<>();
    private final List<List<int[]>> kept = new ArrayList<>(Arrays.asList(null, null, null));
    /** Each pole: kind, tall, strong; each of people: weight, devout. */
    private List<int[]> poles = new ArrayList<>();
    private List<int[]> people = new ArrayList<>();
    private State now = new State();
    private int told, latest;
    private final int[] often = new int[6];
    private long above = 0, below = 1;

    /** What deeds change. */
    private final class State {
        int[] wear = new int[4];
        int[] seat = {NONE, NONE, NONE, NONE, NONE};
        boolean[] gone = new boolean[4];
        int years, stones;

        State like() {
            State s = new State();
            s.wear = wear.clone();
            s.seat = seat.clone();
            s.gone = gone.clone();
            s.years = years;
            s.stones = stones;
            return s;
        }

        int load(int k) {
            int load = 0;
            for (int i = 0; i < people.size(); i++) {
                load += seat[i] == k ? people.get(i)[0] + high(i, k) / 2 : 0;
            }
            return load;
        }

        int strength(int k) {
            return bearing(poles.get(k)[0], poles.get(k)[1], poles.get(k)[2], wear[k]);
        }

        boolean isWell(int k) {
            return !gone[k] && load(k) <= strength(k);
        }

        int sumHigh() {
            int sum = 0;
            for (int i = 0; i < people.size(); i++) {
                sum += high(i, seat[i]);
            }
            return sum;
        }

        int sumHighWell() {
            int sum = 0;
            for (int i = 0; i < people.size(); i++) {
                sum += seat[i] != NONE && isWell(seat[i]) ? high(i, seat[i]) : 0;
            }
            return sum;
        }

        int aYear() {
            boolean[] gives = new boolean[4];
            int bits = 0;
            for (int k = 0; k < poles.size(); k++) {
                gives[k] = !gone[k] && !isWell(k);
                bits += gives[k] ? 1 << k : 0;
            }
            for (int k = 0; k < poles.size(); k++) {
                if (!gone[k] && !gives[k]) {
                    wear[k] = Math.min(20, wear[k] + 1 + (load(k) > 0 ? 1 : 0));
                }
            }
            for (int i = 0; i < people.size(); i++) {
                seat[i] = seat[i] != NONE && gives[seat[i]] ? NONE : seat[i];
            }
            for (int k = 0; k < 4; k++) {
                gone[k] |= gives[k];
            }
            years++;
            return bits;
        }

        int goneBits() {
            int bits = 0;
            for (int k = 0; k < 4; k++) {
                bits += gone[k] ? 1 << k : 0;
            }
            return bits;
        }
    }

    private int high(int i, int k) {
        return k == NONE ? 0 : Math.min(people.get(i)[1], poles.get(k)[1]);
    }

    private static int bearing(int kind, int tall, int strong, int wear) {
        int pole = strong - 2 * wear < 0 ? 0 : strong - 2 * wear;
        int laced = strong - wear < 0 ? 0 : strong - wear;
        return switch (LETTERS.charAt(kind)) {
            case 'p' -> pole;
            case 'r' -> wear < 3 ? pole : pole - pole / 3;
            case 'l' -> laced;
            case 's' -> laced < 5 ? 0 : laced - 5;
            case 'd' -> laced + tall + tall;
            default -> tall <= 5 || wear < 3 ? pole : pole - pole / 3;
        };
    }

    private static boolean in(int v, int least, int most) {
        return least <= v && v <= most;
    }

    private int found(int f) {
        latest = f;
        often[f]++;
        return FINDING;
    }

    private int tell(int v) {
        told = v;
        return 1;
    }

    public int row(int r, int n) {
        if (!in(r, 0, 5) || n > 40) return BAD;
        if (n < 0) return found(5);
        rows[r] = new int[n];
        return n;
    }

    public int lay(int r, int i, int v) {
        if (!in(r, 0, 5)) return BAD;
        if (rows[r] == null) return found(1);
        if (!in(i, 0, rows[r].length - 1)) return found(2);
        tell(rows[r][i]);
        rows[r][i] = v;
        return 1;
    }

    public int at(int r, int i) {
        if (!in(r, 0, 5)) return BAD;
        if (rows[r] == null) return found(1);
        if (!in(i, 0, rows[r].length - 1)) return found(2);
        return tell(rows[r][i]);
    }

    public int tear(int r) {
        if (!in(r, 0, 5)) return BAD;
        if (rows[r] == null) return found(1);
        rows[r] = null;
        return 1;
    }

    public int copy(int r, int i, int to, int j, int n) {
        if (!in(r, 0, 5) || !in(to, 0, 5)) return BAD;
        if (n < 0) return found(5);
        if (rows[r] == null || rows[to] == null) return found(1);
        if (i < 0 || j < 0 || (long) i + n > rows[r].length || (long) j + n > rows[to].length) return found(2);
        int[] ahead = rows[r].clone();
        for (int p = 0; p < n; p++) {
            rows[to][j + p] = ahead[i + p];
        }
        return 1;
    }

    public int mean(int r) {
        if (!in(r, 0, 5)) return BAD;
        if (rows[r] == null) return found(1);
        if (rows[r].length == 0) return found(4);
        return tell((int) (Arrays.stream(rows[r]).asLongStream().sum() / rows[r].length));
    }

    public int text(int t, int n) {
        if (!in(t, 0, 3) || n > 60) return BAD;
        if (n < 0) return found(5);
        texts[t] = new byte[n];
        Arrays.fill(texts[t], (byte) ' ');
        return n;
    }

    public int put(int t, int i, int v) {
        if (!in(t, 0, 3)) return BAD;
        if (texts[t] == null) return found(1);
        if (!in(i, 0, texts[t].length - 1)) return found(2);
        int was = texts[t][i];
        texts[t][i] = (byte) v;
        return was + 1000;
    }

    public int fault(int t) {
        if (!in(t, 0, 3)) return BAD;
        return texts[t] == null ? found(1) : read(texts[t], new ArrayList<>(), new ArrayList<>());
    }

    /** By one sign after another, with what must come next as a text of its own. */
    private static int read(byte[] text, List<int[]> poles, List<int[]> people) {
        String due = "";
        int[] item = null;
        for (int at = 0; at < text.length; at++) {
            char sign = (char) (text[at] & 255);
            if (due.isEmpty()) {
                if (sign == ' ') continue;
                if (sign == 'm' && people.size() < 5) {
                    item = new int[2];
                    people.add(item);
                    due = "wd";
                } else if (LETTERS.indexOf(sign) >= 0 && poles.size() < 4) {
                    item = new int[] {LETTERS.indexOf(sign), 0, 0};
                    poles.add(item);
                    due = "htu";
                } else {
                    return at;
                }
                continue;
            }
            boolean notNought = due.charAt(0) == 'w' || due.charAt(0) == 'h';
            if (sign > '9' || sign < (notNought ? '1' : '0')) return at;
            int v = sign - '0';
            switch (due.charAt(0)) {
                case 'w' -> item[0] = v;
                case 'd', 'h' -> item[1] = v;
                case 't' -> item[2] = 10 * v;
                default -> item[2] += v;
            }
            if (due.equals("u") && item[2] > 60) return at - 1;
            due = due.substring(1);
        }
        return !due.isEmpty() || poles.isEmpty() || people.isEmpty() ? text.length : NONE;
    }

    public int nave(int t) {
        if (!in(t, 0, 3)) return BAD;
        if (texts[t] == null) return found(1);
        List<int[]> newPoles = new ArrayList<>();
        List<int[]> newPeople = new ArrayList<>();
        if (read(texts[t], newPoles, newPeople) != NONE) return STATE;
        poles = newPoles;
        people = newPeople;
        deeds = new ArrayList<>();
        now = new State();
        for (int k = 0; k < 3; k++) {
            kept.set(k, null);
        }
        return poles.size();
    }

    private boolean isPole(int k) {
        return in(k, 0, poles.size() - 1);
    }

    private boolean isOne(int i) {
        return in(i, 0, people.size() - 1);
    }

    private int ofPole(int k, int what) {
        int on = 0;
        for (int i = 0; i < people.size(); i++) {
            on += now.seat[i] == k ? 1 << i : 0;
        }
        int[] all = {poles.get(k)[0], poles.get(k)[1], poles.get(k)[2], now.wear[k], now.strength(k), now.load(k), on,
            now.gone[k] ? 1 : 0};
        return all[what];
    }

    private int ofOne(int i, int what) {
        int[] all = {people.get(i)[0], people.get(i)[1], now.seat[i], high(i, now.seat[i])};
        return all[what];
    }

    public int pole(int k, int what) {
        return isPole(k) && in(what, 0, 7) ? tell(ofPole(k, what)) : BAD;
    }

    public int one(int i, int what) {
        return isOne(i) && in(what, 0, 3) ? tell(ofOne(i, what)) : BAD;
    }

    public int mark(int k, int kind) {
        if (!isPole(k) || !in(kind, 1, 5)) return BAD;
        int[] p = poles.get(k);
        String mine = List.of("p", "rp", "lp", "slp", "dlp", "krp").get(p[0]);
        if (mine.indexOf(LETTERS.charAt(kind)) < 0) return found(3);
        int own = now.strength(k);
        int asPole = bearing(0, p[1], p[2], now.wear[k]);
        int asLaced = bearing(2, p[1], p[2], now.wear[k]);
        int asRotten = bearing(1, p[1], p[2], now.wear[k]);
        int[] marks = {0, asPole - own, own - asPole + 100, asLaced - own, own - asLaced, own - asRotten};
        return marks[kind];
    }

    public int bears(int k, int wear) {
        return isPole(k) && in(wear, 0, 20) ? bearing(poles.get(k)[0], poles.get(k)[1], poles.get(k)[2], wear) : BAD;
    }

    private int act(int what, int i, int k) {
        if (deeds.size() == 40) return FULL;
        deeds.add(new int[] {what, i, k});
        return act(now, what, i, k);
    }

    private int act(State s, int what, int i, int k) {
        switch (what) {
            case 0:
                s.seat[i] = k;
                return s.load(k);
            case 1:
                int was = high(i, s.seat[i]);
                s.seat[i] = NONE;
                return was;
            case 2:
                int wear = s.wear[k];
                s.wear[k] = 0;
                return wear;
            case 3:
                return ++s.stones;
            default:
                return s.aYear();
        }
    }

    private void again() {
        now = new State();
        for (int[] d : deeds) {
            act(now, d[0], d[1], d[2]);
        }
    }

    public int sit(int i, int k) {
        if (!isOne(i) || !isPole(k)) return BAD;
        return now.seat[i] != NONE || now.gone[k] ? STATE : act(0, i, k);
    }

    public int down(int i) {
        if (!isOne(i)) return BAD;
        return now.seat[i] == NONE ? STATE : act(1, i, 0);
    }

    public int lace(int k) {
        if (!isPole(k)) return BAD;
        return now.gone[k] ? STATE : act(2, 0, k);
    }

    public int stone() {
        return poles.isEmpty() ? STATE : act(3, 0, 0);
    }

    public int year() {
        return poles.isEmpty() ? STATE : act(4, 0, 0);
    }

    public int undo(int n) {
        if (!in(n, 0, deeds.size())) return BAD;
        int many = deeds.size() - n;
        deeds = new ArrayList<>(deeds.subList(0, n));
        again();
        return many;
    }

    public int keep(int k) {
        if (!in(k, 0, 2)) return BAD;
        if (poles.isEmpty()) return STATE;
        kept.set(k, new ArrayList<>(deeds));
        return deeds.size();
    }

    public int on(int k) {
        if (!in(k, 0, 2)) return BAD;
        if (kept.get(k) == null) return found(1);
        deeds = new ArrayList<>(kept.get(k));
        again();
        return deeds.size();
    }

    public int holds() {
        if (poles.isEmpty()) return STATE;
        int bits = 0;
        int more = 0;
        for (int k = 0; k < poles.size(); k++) {
            bits += now.isWell(k) ? 1 << k : 0;
            more += now.gone[k] || now.isWell(k) ? 0 : now.load(k) - now.strength(k);
        }
        tell(more);
        return bits;
    }

    public int gives(int k) {
        if (!isPole(k)) return BAD;
        if (now.gone[k]) return NONE;
        State s = now.like();
        for (int years = 1; years <= 40; years++) {
            s.aYear();
            if (s.gone[k]) return years;
        }
        return NONE;
    }

    public int later(int n) {
        if (!in(n, 0, 40)) return BAD;
        if (poles.isEmpty()) return STATE;
        State s = now.like();
        for (int years = 0; years < n; years++) {
            s.aYear();
        }
        tell(s.goneBits());
        return s.sumHigh();
    }

    /** All rows of n places that are NONE or poles, in rising order. */
    private List<int[]> allRows(int n) {
        List<int[]> all = new ArrayList<>();
        all.add(new int[0]);
        for (int place = 0; place < n; place++) {
            List<int[]> longer = new ArrayList<>();
            for (int[] row : all) {
                for (int k = -1; k < poles.size(); k++) {
                    int[] more = Arrays.copyOf(row, place + 1);
                    more[place] = k < 0 ? NONE : k;
                    longer.add(more);
                }
            }
            all = longer;
        }
        return all;
    }

    private State seatedBy(int[] seats) {
        State s = now.like();
        for (int i = 0; i < seats.length; i++) {
            if (seats[i] != NONE && (!isPole(seats[i]) || now.gone[seats[i]])) return null;
            s.seat[i] = seats[i];
        }
        return s;
    }

    private int weak(State s) {
        int many = 0;
        for (int k = 0; k < poles.size(); k++) {
            many += s.gone[k] || s.isWell(k) ? 0 : 1;
        }
        return many;
    }

    public int best(int r) {
        if (!in(r, 0, 5)) return BAD;
        if (poles.isEmpty()) return STATE;
        int most = -1;
        for (int[] seats : allRows(people.size())) {
            State s = seatedBy(seats);
            if (s != null && weak(s) == 0 && s.sumHigh() > most) {
                most = s.sumHigh();
                rows[r] = seats;
            }
        }
        return most;
    }

    public int fewest() {
        if (poles.isEmpty()) return STATE;
        int few = 99;
        int which = 99;
        for (int[] seats : allRows(people.size())) {
            State s = seatedBy(seats);
            int bits = 0;
            for (int k : seats) {
                bits = k == NONE || bits < 0 ? -1 : bits | 1 << k;
            }
            if (s == null || weak(s) > 0 || bits < 0) continue;
            int many = Integer.bitCount(bits);
            if (many < few || many == few && bits < which) {
                few = many;
                which = bits;
            }
        }
        if (few == 99) return NONE;
        tell(which);
        return few;
    }

    public int seated(int r) {
        if (!in(r, 0, 5)) return BAD;
        if (poles.isEmpty()) return STATE;
        if (rows[r] == null) return found(1);
        if (rows[r].length != people.size()) return found(5);
        State s = seatedBy(rows[r]);
        if (s == null) return found(3);
        tell(s.sumHigh());
        return weak(s);
    }

    public int laces(int n, int r) {
        if (!in(n, 0, 5) || !in(r, 0, 5)) return BAD;
        if (poles.isEmpty()) return STATE;
        int few = 99;
        for (int[] laced : allRows(n)) {
            State s = now.like();
            boolean well = true;
            int many = 0;
            for (int k : laced) {
                well &= k == NONE || !now.gone[k];
                if (k != NONE) {
                    many++;
                    s.wear[k] = 0;
                }
                well &= s.aYear() == 0;
            }
            if (well && many < few) {
                few = many;
                rows[r] = laced;
            }
        }
        return few == 99 ? NONE : few;
    }

    private int triples(int k, int r) {
        if (!in(r, 0, 5) || !isPole(k)) return BAD;
        if (rows[r] == null) return found(1);
        if (rows[r].length % 3 != 0) return found(5);
        for (int i = 0; i < rows[r].length; i++) {
            if (!in(rows[r][i], 0, new int[] {20, 99, 1}[i % 3])) return found(3);
        }
        return 0;
    }

    private boolean fits(int r, int kind, int tall, int strong) {
        boolean fits = true;
        for (int i = 0; i < rows[r].length; i += 3) {
            int held = bearing(kind, tall, strong, rows[r][i]) < rows[r][i + 1] ? 0 : 1;
            fits &= held == rows[r][i + 2];
        }
        return fits;
    }

    public int strengths(int k, int r) {
        int refused = triples(k, r);
        if (refused != 0) return refused;
        List<Integer> can = new ArrayList<>();
        for (int strong = 0; strong <= 60; strong++) {
            if (fits(r, poles.get(k)[0], poles.get(k)[1], strong)) can.add(strong);
        }
        if (can.isEmpty()) return NONE;
        tell(can.get(0));
        return can.size();
    }

    private int kindBits(int k, int r) {
        int bits = 0;
        for (int kind = 0; kind <= 5; kind++) {
            bits += fits(r, kind, poles.get(k)[1], poles.get(k)[2]) ? 1 << kind : 0;
        }
        return bits;
    }

    public int kinds(int k, int r) {
        int refused = triples(k, r);
        return refused != 0 ? refused : kindBits(k, r);
    }

    public int test(int k, int r) {
        int refused = triples(k, r);
        if (refused != 0) return refused;
        int bits = kindBits(k, r);
        if (bits == 0) return NONE;
        int first = -1;
        int least = 99;
        for (int load = 0; load <= 99; load++) {
            int[] part = new int[2];
            for (int kind = 0; kind <= 5; kind++) {
                if ((bits >> kind) % 2 == 1) {
                    part[bearing(kind, poles.get(k)[1], poles.get(k)[2], now.wear[k]) >= load ? 1 : 0]++;
                }
            }
            if (Math.max(part[0], part[1]) < least) {
                least = Math.max(part[0], part[1]);
                first = load;
            }
        }
        tell(least);
        return first;
    }

    public int duel(int n) {
        if (!in(n, 0, 4)) return BAD;
        return poles.isEmpty() ? STATE : turn(now.like(), 1, n);
    }

    private int turn(State s, int number, int n) {
        if (number > n) return s.sumHighWell();
        boolean first = number % 2 == 1;
        int end = turn(s, number + 1, n);
        for (int i = 0; i < people.size(); i++) {
            int was = s.seat[i];
            for (int k = 0; first && was == NONE && k < poles.size(); k++) {
                if (!s.gone[k]) {
                    s.seat[i] = k;
                    end = Math.max(end, turn(s, number + 1, n));
                }
            }
            if (!first && was != NONE) {
                s.seat[i] = NONE;
                end = Math.min(end, turn(s, number + 1, n));
            }
            s.seat[i] = was;
        }
        return end;
    }

    private int chance(long up, long low) {
        long a = up;
        long b = low;
        while (b != 0) {
            long rest = a % b;
            a = b;
            b = rest;
        }
        above = up / a;
        below = low / a;
        return 1;
    }

    /** Over all sets of poles that might give: each set's weight, of 12 to the power of 4, times what comes of it. */
    private int overSets(int p, int one) {
        long sum = 0;
        for (int set = 0; set < 16; set++) {
            long weight = 1;
            int high = 0;
            for (int k = 0; k < 4; k++) {
                weight *= (set >> k) % 2 == 1 ? p : 12 - p;
            }
            for (int i = 0; i < people.size(); i++) {
                int k = now.seat[i];
                boolean stays = k != NONE && now.isWell(k) && (set >> k) % 2 == 0;
                high += !stays ? 0 : one < 0 ? high(i, k) : one == i ? 1 : 0;
            }
            sum += weight * high;
        }
        return chance(sum, 12 * 12 * 12 * 12);
    }

    public int odds(int i, int p) {
        return isOne(i) && in(p, 0, 12) ? overSets(p, i) : BAD;
    }

    public int mid(int p) {
        if (!in(p, 0, 12)) return BAD;
        return poles.isEmpty() ? STATE : overSets(p, -1);
    }

    public int lots(int n, int seed) {
        if (!in(n, 1, 20) || !in(seed, 1, 2147483646)) return BAD;
        if (poles.isEmpty()) return STATE;
        if (deeds.size() + n > 40) return FULL;
        long lot = seed;
        for (int j = 0; j < n; j++) {
            lot = lot * 48271 % 2147483647;
            int i = (int) (lot / 8 % people.size());
            int k = (int) (lot / 64 % poles.size());
            int what = lot % 3 == 0 ? 4 : now.seat[i] != NONE ? 1 : now.gone[k] ? 3 : 0;
            act(what, i, k);
        }
        return now.sumHigh();
    }

    public int asked() {
        return told;
    }

    public long upper() {
        return above;
    }

    public long lower() {
        return below;
    }

    private int[] counts() {
        int[] all = new int[12];
        all[0] = poles.size();
        all[1] = people.size();
        all[2] = deeds.size();
        all[3] = now.years;
        all[4] = now.goneBits();
        for (int i = 0; i < people.size(); i++) {
            all[5] += now.seat[i] == NONE ? 0 : 1 << i;
        }
        all[6] = now.sumHigh();
        all[7] = now.stones;
        for (int[] row : rows) {
            all[8] += row == null ? 0 : 1;
        }
        for (byte[] text : texts) {
            all[9] += text == null ? 0 : 1;
        }
        for (List<int[]> k : kept) {
            all[10] += k == null ? 0 : 1;
        }
        for (int[] p : poles) {
            all[11] += "lsd".indexOf(LETTERS.charAt(p[0])) < 0 ? 0 : 1;
        }
        return all;
    }

    public int count(int what) {
        return in(what, 0, 11) ? counts()[what] : BAD;
    }

    public int finding() {
        return latest;
    }

    public int findings(int f) {
        return in(f, 1, 5) ? often[f] : BAD;
    }

    public long digest() {
        List<Integer> all = new ArrayList<>();
        for (int c : counts()) {
            all.add(c);
        }
        for (int k = 0; k < poles.size(); k++) {
            for (int what = 0; what <= 7; what++) {
                all.add(ofPole(k, what));
            }
        }
        for (int i = 0; i < people.size(); i++) {
            for (int what = 0; what <= 3; what++) {
                all.add(ofOne(i, what));
            }
        }
        for (List<int[]> k : kept) {
            all.add(k == null ? -1 : k.size());
        }
        for (int[] row : rows) {
            all.add(row == null ? -1 : row.length);
            for (int i = 0; row != null && i < row.length; i++) {
                all.add(row[i]);
            }
        }
        for (byte[] text : texts) {
            all.add(text == null ? -1 : text.length);
            for (int i = 0; text != null && i < text.length; i++) {
                all.add((int) text[i]);
            }
        }
        long h = 17;
        for (int v : all) {
            h = 31 * h + v;
        }
        return h;
    }
}
