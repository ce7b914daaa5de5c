import java.util.ArrayDeque;
import java.util.ArrayList;
import java.util.Comparator;
import java.util.Deque;
import java.util.HashSet;
import java.util.List;
import java.util.NoSuchElementException;
import java.util.Set;
import java.util.regex.Matcher;
import java.util.regex.Pattern;

/** The document once more, written slowly with the Java library, for comparison with the class. */
public final class Oracle {
    private static final Pattern TEXT = Pattern.compile("([0-9]{1,3}=[0-9]{1,2}:[0-9]{1,2}[lr]?;)+");
    private static final Pattern RESULT = Pattern.compile("([0-9]+)=([0-9]+):([0-9]+)([lr]?);");
    private static final String[] LEGS = {"36", "15", "24", "16", "34", "25", "14", "26", "35"};

    static final class Fencer {
        int id;
        int club;
        int strength;
        int pool = -1;
        int number = -1;
        boolean excluded;
        int[] cards = new int[3];

        Fencer copy() {
            Fencer f = new Fencer();
            f.id = id;
            f.club = club;
            f.strength = strength;
            f.pool = pool;
            f.number = number;
            f.excluded = excluded;
            f.cards = cards.clone();
            return f;
        }
    }

    static final class Bout {
        int[] fencers = {-1, -1};
        int[] touches = {0, 0};
        int state;
        int winner = -1;
        int pool = -1;
        int round = -1;
        int priority = -1;

        Bout copy() {
            Bout b = new Bout();
            b.fencers = fencers.clone();
            b.touches = touches.clone();
            b.state = state;
            b.winner = winner;
            b.pool = pool;
            b.round = round;
            b.priority = priority;
            return b;
        }

        int target() {
            return pool >= 0 ? 5 : 15;
        }
    }

    static final class Team {
        int one;
        int other;
        List<Integer> fencers = new ArrayList<>();
        List<int[]> legs = new ArrayList<>();
        int winner = -1;
        boolean drawn;

        Team copy() {
            Team t = new Team();
            t.one = one;
            t.other = other;
            t.fencers.addAll(fencers);
            t.legs.addAll(legs);
            t.winner = winner;
            t.drawn = drawn;
            return t;
        }

        int total(int side) {
            return legs.stream().mapToInt(l -> l[side]).sum();
        }
    }

    static final class State {
        int phase;
        long z = 1;
        List<Fencer> fencers = new ArrayList<>();
        List<List<Integer>> pools = new ArrayList<>();
        List<Bout> bouts = new ArrayList<>();
        List<Integer> seeds = new ArrayList<>();
        int size;
        Set<Integer> shown = new HashSet<>();
        Team team;

        State copy() {
            State s = new State();
            s.phase = phase;
            s.z = z;
            fencers.forEach(f -> s.fencers.add(f.copy()));
            pools.forEach(p -> s.pools.add(new ArrayList<>(p)));
            bouts.forEach(b -> s.bouts.add(b.copy()));
            s.seeds.addAll(seeds);
            s.size = size;
            s.shown.addAll(shown);
            s.team = team == null ? null : team.copy();
            return s;
        }
    }

    State s = new State();
    private State snapshot;
    private final Deque<State> before = new ArrayDeque<>();
    private String buffer = "";
    private int fault = -1;
    private int reason;

    private void change() {
        before.addLast(s.copy());
        if (before.size() > 8) {
            before.removeFirst();
        }
    }

    private static void argument(boolean ok) {
        if (!ok) {
            throw new IllegalArgumentException();
        }
    }

    private static void state(boolean ok) {
        if (!ok) {
            throw new IllegalStateException();
        }
    }

    private static void index(boolean ok) {
        if (!ok) {
            throw new IndexOutOfBoundsException();
        }
    }

    private static void element(boolean ok) {
        if (!ok) {
            throw new NoSuchElementException();
        }
    }

    private void isFencer(int f) {
        index(f >= 0 && f < s.fencers.size());
    }

    private void isBout(int b) {
        index(b >= 0 && b < s.bouts.size());
    }

    public int addFencer(int club, int strength) {
        argument(club >= 0 && club <= 7 && strength >= 1 && strength <= 999);
        state(s.phase == 0 && s.fencers.size() < 24);
        change();
        Fencer f = new Fencer();
        f.id = s.fencers.size();
        f.club = club;
        f.strength = strength;
        s.fencers.add(f);
        return f.id;
    }

    public int drawPools(int n) {
        argument(n >= 1 && n <= 6);
        state(s.phase == 0 && s.fencers.size() / n >= 3);
        change();
        for (int p = 0; p < n; p++) {
            s.pools.add(new ArrayList<>());
        }
        List<Fencer> order = new ArrayList<>(s.fencers);
        order.sort(Comparator.comparingInt((Fencer f) -> f.strength).thenComparingInt(f -> f.id));
        int row = 0;
        for (int from = 0; from < order.size(); from += n) {
            Set<Integer> gone = new HashSet<>();
            for (Fencer f : order.subList(from, Math.min(order.size(), from + n))) {
                int best = -1;
                long least = Long.MAX_VALUE;
                for (int k = 0; k < n; k++) {
                    int p = row % 2 == 0 ? k : n - 1 - k;
                    long same = s.pools.get(p).stream().filter(m -> s.fencers.get(m).club == f.club).count();
                    if (!gone.contains(p) && same < least) {
                        best = p;
                        least = same;
                    }
                }
                gone.add(best);
                f.pool = best;
                f.number = s.pools.get(best).size();
                s.pools.get(best).add(f.id);
            }
            row++;
        }
        for (int p = 0; p < n; p++) {
            List<Integer> members = s.pools.get(p);
            for (int i = 0; i < members.size(); i++) {
                for (int j = i + 1; j < members.size(); j++) {
                    Bout b = new Bout();
                    b.pool = p;
                    b.fencers = new int[] {members.get(i), members.get(j)};
                    s.bouts.add(b);
                }
            }
        }
        s.phase = 1;
        return s.bouts.size();
    }

    public int setSeed(int seed) {
        argument(seed >= 0);
        int old = (int) s.z;
        s.z = seed;
        before.clear();
        return old;
    }

    public int fencer(int f, int what) {
        isFencer(f);
        argument(what >= 0 && what <= 7);
        Fencer x = s.fencers.get(f);
        int[] all = {x.club, x.strength, x.pool, x.number, x.excluded ? 1 : 0, x.cards[0], x.cards[1], x.cards[2]};
        return all[what];
    }

    public int meet(int what) {
        argument(what >= 0 && what <= 5);
        int[] all = {s.phase, s.fencers.size(), s.pools.size(), s.bouts.size(), ranking().size(), s.size};
        return all[what];
    }

    public int members(int pool) {
        index(pool >= 0 && pool < s.pools.size());
        return s.pools.get(pool).size();
    }

    public int member(int pool, int i) {
        index(pool >= 0 && pool < s.pools.size());
        element(i >= 0 && i < s.pools.get(pool).size());
        return s.pools.get(pool).get(i);
    }

    public int clubPairs() {
        int pairs = 0;
        for (Fencer a : s.fencers) {
            for (Fencer b : s.fencers) {
                if (a.id < b.id && a.pool >= 0 && a.pool == b.pool && a.club == b.club) {
                    pairs++;
                }
            }
        }
        return pairs;
    }

    public int bout(int bout, int what) {
        isBout(bout);
        argument(what >= 0 && what <= 8);
        Bout b = s.bouts.get(bout);
        int[] all = {b.fencers[0], b.fencers[1], b.touches[0], b.touches[1], b.state, b.winner,
            b.pool >= 0 ? b.pool : 100 + b.round, b.target(), b.priority};
        return all[what];
    }

    int currentOrNone() {
        for (int b = 0; b < s.bouts.size(); b++) {
            if (s.bouts.get(b).state == 1) {
                return b;
            }
        }
        return -1;
    }

    public int current() {
        int b = currentOrNone();
        element(b >= 0);
        return b;
    }

    public int poolBout(int one, int other) {
        isFencer(one);
        isFencer(other);
        for (int b = 0; b < s.bouts.size(); b++) {
            Bout x = s.bouts.get(b);
            boolean straight = x.fencers[0] == one && x.fencers[1] == other;
            boolean crossed = x.fencers[0] == other && x.fencers[1] == one;
            if (x.pool >= 0 && (straight || crossed)) {
                return b;
            }
        }
        throw new NoSuchElementException();
    }

    public int begin(int bout) {
        isBout(bout);
        Bout b = s.bouts.get(bout);
        if (currentOrNone() >= 0 || b.state != 0 || b.fencers[0] < 0 || b.fencers[1] < 0) {
            throw new UnsupportedOperationException();
        }
        change();
        s.bouts.get(bout).state = 1;
        s.shown.clear();
        return b.target();
    }

    private void finish(Bout b, int side) {
        b.state = 2;
        b.winner = b.fencers[side];
        promote(b);
    }

    private void promote(Bout b) {
        if (b.pool >= 0) {
            return;
        }
        if (b.round == 2) {
            s.phase = 3;
            return;
        }
        List<Bout> mine = s.bouts.stream().filter(x -> x.round == b.round).toList();
        List<Bout> next = s.bouts.stream().filter(x -> x.round == b.round / 2).toList();
        int i = mine.indexOf(b);
        next.get(i / 2).fencers[i % 2] = b.winner;
    }

    private void touchFor(Bout b, int side) {
        b.touches[side]++;
        if (b.touches[side] == b.target() || b.priority >= 0) {
            finish(b, side);
        }
    }

    public int touch(int side) {
        argument(side >= 0 && side <= 2);
        state(currentOrNone() >= 0);
        change();
        Bout b = s.bouts.get(currentOrNone());
        if (side < 2) {
            touchFor(b, side);
        } else if (b.priority < 0 && b.touches[0] + 1 != b.target() && b.touches[1] + 1 != b.target()) {
            b.touches[0]++;
            b.touches[1]++;
        }
        return b.state;
    }

    private int drawSide() {
        s.z = (s.z * 1103515245L + 12345L) & 0x7fffffffL;
        return (int) (s.z >> 16) & 1;
    }

    public int time() {
        state(currentOrNone() >= 0);
        change();
        Bout b = s.bouts.get(currentOrNone());
        if (b.priority >= 0) {
            finish(b, b.priority);
        } else if (b.touches[0] > b.touches[1]) {
            finish(b, 0);
        } else if (b.touches[0] < b.touches[1]) {
            finish(b, 1);
        } else {
            b.priority = drawSide();
        }
        return b.state;
    }

    public int card(int side, int kind) {
        argument(side >= 0 && side <= 1 && kind >= 0 && kind <= 2);
        state(currentOrNone() >= 0);
        change();
        Bout b = s.bouts.get(currentOrNone());
        Fencer f = s.fencers.get(b.fencers[side]);
        boolean first = s.shown.add(side);
        int counted = kind == 0 && !first ? 1 : kind;
        f.cards[counted]++;
        if (counted == 1) {
            touchFor(b, 1 - side);
        }
        if (counted == 2) {
            f.excluded = true;
            if (b.pool < 0) {
                finish(b, 1 - side);
            }
            for (Bout x : s.bouts) {
                if (b.pool >= 0 && x.pool == b.pool && (x.fencers[0] == f.id || x.fencers[1] == f.id)) {
                    x.state = 3;
                    x.touches = new int[2];
                    x.winner = -1;
                    x.priority = -1;
                }
            }
        }
        return counted;
    }

    private int against(Bout b, int left, int right, int winner) {
        int t = b.target();
        if (b.state != 0) {
            return 1;
        } else if (currentOrNone() >= 0) {
            return 2;
        } else if (b.fencers[0] < 0 || b.fencers[1] < 0) {
            return 3;
        } else if (left < 0 || right < 0 || left > t || right > t) {
            return 4;
        } else if (left == t && right == t) {
            return 5;
        } else if (left == right && winner != 0 && winner != 1) {
            return 6;
        } else if (left != right && winner != -1) {
            return 6;
        }
        return 0;
    }

    public int enter(int bout, int left, int right, int winner) {
        isBout(bout);
        int no = against(s.bouts.get(bout), left, right, winner);
        if (no > 0) {
            reason = no;
            throw new UnsupportedOperationException();
        }
        change();
        Bout b = s.bouts.get(bout);
        b.touches = new int[] {left, right};
        finish(b, left > right ? 0 : left < right ? 1 : winner);
        return b.winner;
    }

    public int refusal() {
        element(reason > 0);
        return reason;
    }

    private int[] tally(int fencer) {
        int[] sum = new int[5];
        for (Bout b : s.bouts) {
            for (int side = 0; side < 2; side++) {
                if (b.pool >= 0 && b.state == 2 && b.fencers[side] == fencer) {
                    sum[0] += b.winner == fencer ? 1 : 0;
                    sum[1]++;
                    sum[2] += b.touches[side];
                    sum[3] += b.touches[1 - side];
                    sum[4] = sum[2] - sum[3];
                }
            }
        }
        return sum;
    }

    public int result(int fencer, int what) {
        isFencer(fencer);
        argument(what >= 0 && what <= 4);
        return tally(fencer)[what];
    }

    public double ratio(int fencer) {
        isFencer(fencer);
        int[] t = tally(fencer);
        if (t[1] == 0) {
            throw new ArithmeticException();
        }
        return (double) t[0] / (double) t[1];
    }

    private int reasonFor(Fencer one, Fencer other) {
        int[] a = tally(one.id);
        int[] b = tally(other.id);
        // ratios of at most 23 bouts differ by more than a rounding, if they differ
        double ra = a[1] == 0 ? 0 : (double) a[0] / a[1];
        double rb = b[1] == 0 ? 0 : (double) b[0] / b[1];
        if (Math.abs(ra - rb) > 1e-6) {
            return ra > rb ? 1 : -1;
        } else if (a[4] != b[4]) {
            return a[4] > b[4] ? 2 : -2;
        } else if (a[2] != b[2]) {
            return a[2] > b[2] ? 3 : -3;
        } else if (one.strength != other.strength) {
            return one.strength < other.strength ? 4 : -4;
        }
        return one.id < other.id ? 4 : -4;
    }

    private List<Fencer> ranking() {
        List<Fencer> in = new ArrayList<>(s.fencers.stream().filter(f -> !f.excluded).toList());
        in.sort((a, b) -> a == b ? 0 : reasonFor(a, b) > 0 ? -1 : 1);
        return in;
    }

    public int ranked(int i) {
        List<Fencer> all = ranking();
        element(i >= 0 && i < all.size());
        return all.get(i).id;
    }

    public int place(int fencer) {
        isFencer(fencer);
        element(!s.fencers.get(fencer).excluded);
        return ranking().indexOf(s.fencers.get(fencer));
    }

    public int why(int one, int other) {
        isFencer(one);
        isFencer(other);
        element(!s.fencers.get(one).excluded && !s.fencers.get(other).excluded && one != other);
        return reasonFor(s.fencers.get(one), s.fencers.get(other));
    }

    private static List<Integer> seedOrder(int size) {
        if (size == 2) {
            return List.of(1, 2);
        }
        List<Integer> order = new ArrayList<>();
        for (int x : seedOrder(size / 2)) {
            order.add(x);
            order.add(size + 1 - x);
        }
        return order;
    }

    public int drawTable() {
        List<Fencer> in = ranking();
        state(s.phase == 1 && in.size() >= 2 && s.bouts.stream().allMatch(b -> b.state == 2 || b.state == 3));
        change();
        s.size = Math.max(2, 2 * Integer.highestOneBit(in.size() - 1));
        in.forEach(f -> s.seeds.add(f.id));
        List<Integer> order = seedOrder(s.size);
        for (int round = s.size; round >= 2; round /= 2) {
            for (int i = 0; i < round; i += 2) {
                Bout b = new Bout();
                b.round = round;
                for (int side = 0; side < 2 && round == s.size; side++) {
                    int seed = order.get(i + side);
                    b.fencers[side] = seed <= in.size() ? in.get(seed - 1).id : -1;
                }
                s.bouts.add(b);
            }
        }
        for (Bout b : s.bouts) {
            if (b.round == s.size && (b.fencers[0] < 0 || b.fencers[1] < 0)) {
                b.state = 4;
                b.winner = Math.max(b.fencers[0], b.fencers[1]);
                promote(b);
            }
        }
        s.phase = 2;
        return s.size;
    }

    public int seeded(int seed) {
        state(s.size > 0);
        element(seed >= 1 && seed <= s.seeds.size());
        return s.seeds.get(seed - 1);
    }

    public int tableBout(int round, int i) {
        state(s.size > 0);
        List<Bout> all = s.bouts.stream().filter(b -> b.round == round && b.pool < 0).toList();
        element(i >= 0 && i < all.size());
        return s.bouts.indexOf(all.get(i));
    }

    public int finalist(int place) {
        state(s.phase == 3);
        List<Integer> order = new ArrayList<>();
        Bout last = s.bouts.get(s.bouts.size() - 1);
        order.add(last.winner);
        for (int round = 2; round <= s.size; round *= 2) {
            List<Integer> losers = new ArrayList<>();
            for (Bout b : s.bouts) {
                if (b.pool < 0 && b.round == round && b.state == 2) {
                    losers.add(b.fencers[0] + b.fencers[1] - b.winner);
                }
            }
            losers.sort(Comparator.comparingInt(f -> s.seeds.indexOf(f)));
            order.addAll(losers);
        }
        element(place >= 1 && place <= order.size());
        return order.get(place - 1);
    }

    public int toGo(int fencer) {
        isFencer(fencer);
        state(s.size > 0);
        element(s.seeds.contains(fencer));
        int left = Integer.numberOfTrailingZeros(s.size);
        for (Bout b : s.bouts) {
            if (b.pool < 0 && b.winner >= 0 && (b.fencers[0] == fencer || b.fencers[1] == fencer)) {
                element(b.winner == fencer);
                left--;
            }
        }
        return left;
    }

    private List<Integer> best(int club) {
        return ranking().stream().filter(f -> f.club == club).map(f -> f.id).limit(3).toList();
    }

    public int beginRelay(int one, int other) {
        argument(one >= 0 && one <= 7 && other >= 0 && other <= 7 && one != other);
        state(s.phase >= 2 && best(one).size() == 3 && best(other).size() == 3);
        change();
        Team t = new Team();
        t.one = one;
        t.other = other;
        t.fencers.addAll(best(one));
        t.fencers.addAll(best(other));
        s.team = t;
        return t.fencers.get(2);
    }

    public int leg(int one, int other) {
        state(s.team != null && s.team.legs.size() < 9);
        long limit = 5L * (s.team.legs.size() + 1);
        argument(one >= 0 && other >= 0 && (long) s.team.total(0) + one <= limit
                && (long) s.team.total(1) + other <= limit);
        change();
        Team t = s.team;
        t.legs.add(new int[] {one, other});
        if (t.legs.size() == 9) {
            t.drawn = t.total(0) == t.total(1);
            boolean first = t.drawn ? drawSide() == 0 : t.total(0) > t.total(1);
            t.winner = first ? t.one : t.other;
        }
        return 9 - t.legs.size();
    }

    public int relay(int what) {
        element(s.team != null);
        argument(what >= 0 && what <= 6);
        Team t = s.team;
        int told = t.legs.size();
        int next = told < 9 ? t.fencers.get(LEGS[told].charAt(0) - '1') : -1;
        int nextOther = told < 9 ? t.fencers.get(LEGS[told].charAt(1) - '1') : -1;
        int[] all = {told, t.total(0), t.total(1), t.winner, next, nextOther, t.drawn ? 1 : 0};
        return all[what];
    }

    public int account(int what) {
        argument(what >= 0 && what <= 8);
        if (what < 5) {
            return (int) s.bouts.stream().filter(b -> b.state == what).count();
        }
        if (what == 5) {
            return s.bouts.stream().filter(b -> b.state == 2).mapToInt(b -> b.touches[0] + b.touches[1]).sum();
        }
        if (what == 7) {
            return s.fencers.stream().mapToInt(f -> f.cards[0] + f.cards[1] + f.cards[2]).sum();
        }
        return s.fencers.stream().mapToInt(f -> tally(f.id)[what == 6 ? 4 : 0]).sum();
    }

    public void append(char c) {
        state(buffer.length() < 60);
        buffer += c;
    }

    private static int faultOf(String text) {
        for (int end = 1; end <= text.length(); end++) {
            Matcher m = TEXT.matcher(text.substring(0, end));
            if (!m.matches() && !m.hitEnd()) {
                return end - 1;
            }
        }
        return TEXT.matcher(text).matches() ? -1 : text.length();
    }

    public int readResults() {
        String text = buffer;
        buffer = "";
        fault = faultOf(text);
        argument(fault < 0);
        int entered = 0;
        Matcher m = RESULT.matcher(text);
        while (m.find()) {
            int bout = Integer.parseInt(m.group(1));
            try {
                int side = m.group(4).isEmpty() ? -1 : "lr".indexOf(m.group(4));
                enter(bout, Integer.parseInt(m.group(2)), Integer.parseInt(m.group(3)), side);
            } catch (IndexOutOfBoundsException | UnsupportedOperationException e) {
                return entered;
            }
            entered++;
        }
        return entered;
    }

    public int faultPosition() {
        return fault;
    }

    public int undo() {
        state(!before.isEmpty());
        s = before.removeLast();
        return before.size();
    }

    public void save() {
        snapshot = s.copy();
    }

    public void restore() {
        state(snapshot != null);
        s = snapshot.copy();
        before.clear();
    }
}
