import java.util.LinkedHashMap;
import java.util.Map;
import java.util.function.Consumer;
import java.util.function.Supplier;

/**
 * Each exception of each promise, in each of some situations: that it is thrown on the one side of its boundary and
 * not on the other, which one comes first, and that the state is unchanged behind it.
 */
public final class RefusedCallsTests {
    private final String name;
    private final Supplier<FencingMeet> start;
    private final int phase;
    private final int fencers;
    private final int pools;
    private final int bouts;
    private final int size;
    private final boolean inProgress;

    private RefusedCallsTests(String name, Supplier<FencingMeet> start) {
        this.name = name;
        this.start = start;
        FencingMeet m = start.get();
        phase = m.meet(0);
        fencers = m.meet(1);
        pools = m.meet(2);
        bouts = m.meet(3);
        size = m.meet(5);
        inProgress = m.account(1) == 1;
    }

    public static void main(String[] args) {
        Checks.about("A call that throws an exception leaves the state unchanged, unless stated otherwise.");
        for (Map.Entry<String, Supplier<FencingMeet>> one : situations().entrySet()) {
            RefusedCallsTests tests = new RefusedCallsTests(one.getKey(), one.getValue());
            Answers.unchangedByQuestions(one.getKey(), one.getValue());
            tests.entries();
            tests.questionsOfEntries();
            tests.bouts();
            tests.questionsOfBouts();
            tests.results();
            tests.ranking();
            tests.table();
            tests.relays();
            tests.accountsAndChanges();
        }
        texts();
        Checks.end("RefusedCallsTests");
    }

    // ---- the situations ----

    private static Map<String, Supplier<FencingMeet>> situations() {
        Map<String, Supplier<FencingMeet>> all = new LinkedHashMap<>();
        all.put("new", FencingMeet::new);
        all.put("two entered", () -> Meets.with(0, 7, 1, 5));
        all.put("entries", RefusedCallsTests::entriesWithMore);
        all.put("24 entered", () -> Meets.entered(24));
        all.put("pools", RefusedCallsTests::poolsWithMore);
        all.put("between bouts", RefusedCallsTests::poolsWithExcluded);
        all.put("pools fought", () -> Meets.fought(5));
        all.put("one is left", RefusedCallsTests::oneIsLeft);
        all.put("table", RefusedCallsTests::tableWithMore);
        all.put("table with byes", RefusedCallsTests::tableWithByes);
        all.put("over", RefusedCallsTests::overWithMore);
        return all;
    }

    private static FencingMeet entriesWithMore() {
        FencingMeet m = Meets.with(0, 7, 1, 5, 1, 5, 2, 999, 7, 1);
        m.setSeed(9);
        m.save();
        m.addFencer(3, 4);
        m.addFencer(0, 4);
        m.addFencer(0, 3);
        m.undo();
        Meets.type(m, "0=5");
        return m;
    }

    /** A bout in progress with a yellow card on the left, a result refused, a fault, a buffer and a snapshot. */
    private static FencingMeet poolsWithMore() {
        FencingMeet m = Meets.entered(7);
        m.drawPools(2);
        m.setSeed(123456);
        m.enter(0, 5, 1, -1);
        m.enter(5, 2, 2, 1);
        m.save();
        Checks.answerOf(() -> m.enter(1, 5, 5, 0));
        Meets.type(m, "1=5;");
        Checks.answerOf(m::readResults);
        Meets.type(m, "2=1:0;");
        m.begin(1);
        m.touch(0);
        m.card(0, 0);
        m.touch(2);
        return m;
    }

    private static FencingMeet poolsWithExcluded() {
        FencingMeet m = Meets.entered(6);
        m.drawPools(2);
        m.begin(3);
        m.card(1, 2);
        m.enter(0, 5, 1, -1);
        m.begin(1);
        m.time();
        m.time();
        return m;
    }

    private static FencingMeet oneIsLeft() {
        FencingMeet m = Meets.onePool(3);
        m.begin(0);
        m.card(0, 2);
        m.begin(2);
        m.card(1, 2);
        return m;
    }

    /** A bout with priority in progress in the table of eight, and a relay in its third leg. */
    private static FencingMeet tableWithMore() {
        FencingMeet m = Meets.withTable(8);
        m.save();
        m.setSeed(5);
        m.beginRelay(1, 0);
        m.leg(5, 2);
        m.leg(1, 8);
        m.enter(28, 15, 3, -1);
        m.begin(29);
        m.touch(2);
        m.time();
        Meets.type(m, "30=15:0;");
        return m;
    }

    /** Nothing in progress, one fencer excluded in the table, a relay that is fenced. */
    private static FencingMeet tableWithByes() {
        FencingMeet m = Meets.withTable(7);
        m.beginRelay(0, 1);
        for (int leg = 0; leg < 9; leg++) {
            m.leg(3, 3);
        }
        m.begin(m.tableBout(8, 1));
        m.card(0, 2);
        return m;
    }

    private static FencingMeet overWithMore() {
        FencingMeet m = Meets.over(6);
        m.beginRelay(0, 1);
        m.leg(0, 5);
        return m;
    }

    // ---- how a call is looked at ----

    private void refused(String call, Class<? extends RuntimeException> want, Consumer<FencingMeet> made) {
        String what = name + ": " + call;
        Checks.fails(what, want, () -> made.accept(start.get()));
        Answers.unchanged(what, start, made);
    }

    private void accepted(String call, Consumer<FencingMeet> made) {
        Checks.due(name + ": " + call, "answered", () -> {
            made.accept(start.get());
            return "answered";
        });
    }

    /** Refused or accepted as the condition tells. */
    private void refusedIf(boolean refused, String call, Class<? extends RuntimeException> want,
            Consumer<FencingMeet> made) {
        if (refused) {
            refused(call, want, made);
        } else {
            accepted(call, made);
        }
    }

    // ---- promises 2 to 9 ----

    private void entries() {
        int[][] out = {{-1, 1}, {8, 1}, {0, 0}, {7, 1000}, {Checks.LEAST, 5}, {Checks.GREATEST, 5},
            {3, Checks.LEAST}, {3, Checks.GREATEST}, {-1, 0}};
        for (int[] pair : out) {
            refused("addFencer " + pair[0] + " " + pair[1], Checks.ARGUMENT, m -> m.addFencer(pair[0], pair[1]));
        }
        boolean full = phase != 0 || fencers == 24;
        for (int[] pair : new int[][] {{0, 1}, {7, 999}, {0, 999}, {7, 1}}) {
            refusedIf(full, "addFencer " + pair[0] + " " + pair[1], Checks.STATE, m -> m.addFencer(pair[0], pair[1]));
        }
        for (int n : new int[] {Checks.LEAST, -1, 0, 7, Checks.GREATEST}) {
            refused("drawPools " + n, Checks.ARGUMENT, m -> m.drawPools(n));
        }
        for (int pools = 1; pools <= 6; pools++) {
            int n = pools;
            refusedIf(phase != 0 || fencers / n < 3, "drawPools " + n, Checks.STATE, m -> m.drawPools(n));
        }
        for (int seed : new int[] {-1, Checks.LEAST}) {
            refused("setSeed " + seed, Checks.ARGUMENT, m -> m.setSeed(seed));
        }
        accepted("setSeed 0", m -> m.setSeed(0));
        accepted("setSeed greatest", m -> m.setSeed(Checks.GREATEST));
    }

    private void questionsOfEntries() {
        int[][] none = {{-1, 0}, {fencers, 0}, {fencers, 7}, {-1, -1}, {fencers, 8}, {Checks.LEAST, 0},
            {Checks.GREATEST, 0}};
        for (int[] pair : none) {
            refused("fencer " + pair[0] + " " + pair[1], Checks.INDEX, m -> m.fencer(pair[0], pair[1]));
        }
        for (int what : new int[] {Checks.LEAST, -1, 6, Checks.GREATEST}) {
            refused("meet " + what, Checks.ARGUMENT, m -> m.meet(what));
        }
        accepted("meet 0 and 5", m -> {
            m.meet(0);
            m.meet(5);
        });
        for (int pool : new int[] {Checks.LEAST, -1, pools, Checks.GREATEST}) {
            refused("members " + pool, Checks.INDEX, m -> m.members(pool));
            refused("member " + pool + " 0", Checks.INDEX, m -> m.member(pool, 0));
            refused("member " + pool + " -1", Checks.INDEX, m -> m.member(pool, -1));
        }
        if (fencers > 0) {
            for (int what : new int[] {Checks.LEAST, -1, 8, Checks.GREATEST}) {
                refused("fencer's " + what, Checks.ARGUMENT, m -> m.fencer(fencers - 1, what));
            }
            accepted("fencer's 0 and 7", m -> {
                m.fencer(0, 0);
                m.fencer(fencers - 1, 7);
            });
        }
        if (pools > 0) {
            int last = start.get().members(pools - 1);
            for (int index : new int[] {Checks.LEAST, -1, last, Checks.GREATEST}) {
                refused("member at " + index, Checks.ELEMENT, m -> m.member(pools - 1, index));
            }
            accepted("members at the ends", m -> {
                m.member(pools - 1, 0);
                m.member(pools - 1, last - 1);
            });
        }
    }

    // ---- promises 10 to 18 ----

    private void bouts() {
        for (int bout : new int[] {Checks.LEAST, -1, bouts, Checks.GREATEST}) {
            refused("begin " + bout, Checks.INDEX, m -> m.begin(bout));
        }
        for (int bout = 0; bout < bouts && bouts < 50; bout++) {
            int b = bout;
            FencingMeet m = start.get();
            boolean known = m.bout(b, 0) >= 0 && m.bout(b, 1) >= 0;
            refusedIf(inProgress || m.bout(b, 4) != 0 || !known, "begin " + b, Checks.UNSUPPORTED, x -> x.begin(b));
        }
        for (int side : new int[] {Checks.LEAST, -1, 3, Checks.GREATEST}) {
            refused("touch " + side, Checks.ARGUMENT, m -> m.touch(side));
        }
        for (int side = 0; side <= 2; side++) {
            int s = side;
            refusedIf(!inProgress, "touch " + s, Checks.STATE, m -> m.touch(s));
        }
        refusedIf(!inProgress, "time", Checks.STATE, FencingMeet::time);
        int[][] out = {{-1, 0}, {2, 0}, {0, -1}, {1, 3}, {2, 3}, {Checks.LEAST, 1}, {Checks.GREATEST, 1},
            {0, Checks.LEAST}, {0, Checks.GREATEST}};
        for (int[] pair : out) {
            refused("card " + pair[0] + " " + pair[1], Checks.ARGUMENT, m -> m.card(pair[0], pair[1]));
        }
        for (int[] pair : new int[][] {{0, 0}, {1, 0}, {0, 1}, {1, 1}, {0, 2}, {1, 2}}) {
            refusedIf(!inProgress, "card " + pair[0] + " " + pair[1], Checks.STATE, m -> m.card(pair[0], pair[1]));
        }
    }

    private void questionsOfBouts() {
        for (int bout : new int[] {Checks.LEAST, -1, bouts, Checks.GREATEST}) {
            refused("bout " + bout + " 0", Checks.INDEX, m -> m.bout(bout, 0));
            refused("bout " + bout + " 9", Checks.INDEX, m -> m.bout(bout, 9));
        }
        if (bouts > 0) {
            for (int what : new int[] {Checks.LEAST, -1, 9, Checks.GREATEST}) {
                refused("bout's " + what, Checks.ARGUMENT, m -> m.bout(bouts - 1, what));
            }
            accepted("bout's 0 and 8", m -> {
                m.bout(0, 0);
                m.bout(bouts - 1, 8);
            });
        }
        refusedIf(!inProgress, "current", Checks.ELEMENT, FencingMeet::current);
        for (int[] pair : outside()) {
            refused("poolBout " + pair[0] + " " + pair[1], Checks.INDEX, m -> m.poolBout(pair[0], pair[1]));
        }
        for (int fencer = 0; fencer < fencers; fencer++) {
            int f = fencer;
            FencingMeet m = start.get();
            boolean together = f > 0 && phase > 0 && m.fencer(0, 2) == m.fencer(f, 2);
            refusedIf(!together, "poolBout 0 " + f, Checks.ELEMENT, x -> x.poolBout(0, f));
        }
    }

    /** Pairs of numbers of which one at least is no fencer. */
    private int[][] outside() {
        return new int[][] {{-1, 0}, {0, -1}, {fencers, 0}, {0, fencers}, {fencers, fencers}, {-1, -1},
            {Checks.LEAST, Checks.GREATEST}, {Checks.GREATEST, Checks.LEAST}};
    }

    private void results() {
        for (int bout : new int[] {Checks.LEAST, -1, bouts, Checks.GREATEST}) {
            refused("enter " + bout, Checks.INDEX, m -> m.enter(bout, 5, 1, -1));
            refused("enter " + bout + " with all wrong", Checks.INDEX, m -> m.enter(bout, -1, 99, 7));
        }
        boolean none = Checks.ELEMENT.getName().equals(Checks.answerOf(() -> start.get().refusal()));
        refusedIf(none, "refusal", Checks.ELEMENT, FencingMeet::refusal);
        for (int bout = 0; bout < bouts; bout++) {
            refusedResults(bout);
        }
    }

    /** The reason is kept; all else is as before. */
    private void refusedResults(int bout) {
        FencingMeet now = start.get();
        int target = now.bout(bout, 7);
        boolean known = now.bout(bout, 0) >= 0 && now.bout(bout, 1) >= 0;
        int first = now.bout(bout, 4) != 0 ? 1 : inProgress ? 2 : known ? 0 : 3;
        int[][] results = {{-1, 0, -1, 4}, {0, target + 1, 1, 4}, {target, target, 0, 5}, {2, 2, -1, 6},
            {target, 2, 0, 6}};
        for (int[] r : results) {
            String what = name + ": enter " + bout + " " + r[0] + ":" + r[1] + " " + r[2];
            Consumer<FencingMeet> call = m -> m.enter(bout, r[0], r[1], r[2]);
            Checks.fails(what, Checks.UNSUPPORTED, () -> call.accept(start.get()));
            int reason = first > 0 ? first : r[3];
            Checks.due(what + ": the reason", reason, () -> Answers.behindRefused(start, call).refusal());
            Answers.unchanged(what, "refusal", start, call);
        }
        if (first == 0) {
            accepted("enter " + bout, m -> m.enter(bout, target, target - 1, -1));
            accepted("enter " + bout + " with equal touches", m -> m.enter(bout, 0, 0, 1));
        }
    }

    private static int undoes(FencingMeet m) {
        int undone = 0;
        while (undone < 10 && Checks.answerOf(m::undo) instanceof Integer) {
            undone++;
        }
        return undone;
    }

    // ---- promises 19 to 28 ----

    private void ranking() {
        for (int fencer : new int[] {Checks.LEAST, -1, fencers, Checks.GREATEST}) {
            refused("result " + fencer + " 0", Checks.INDEX, m -> m.result(fencer, 0));
            refused("result " + fencer + " 5", Checks.INDEX, m -> m.result(fencer, 5));
            refused("ratio " + fencer, Checks.INDEX, m -> m.ratio(fencer));
            refused("place " + fencer, Checks.INDEX, m -> m.place(fencer));
        }
        int ranked = start.get().meet(4);
        for (int index : new int[] {Checks.LEAST, -1, ranked, fencers, Checks.GREATEST}) {
            refused("ranked " + index, Checks.ELEMENT, m -> m.ranked(index));
        }
        if (ranked > 0) {
            accepted("ranked at the ends", m -> {
                m.ranked(0);
                m.ranked(ranked - 1);
            });
        }
        for (int[] pair : outside()) {
            refused("why " + pair[0] + " " + pair[1], Checks.INDEX, m -> m.why(pair[0], pair[1]));
        }
        for (int fencer = 0; fencer < fencers; fencer++) {
            int f = fencer;
            FencingMeet m = start.get();
            boolean out = m.fencer(f, 4) == 1;
            for (int what : new int[] {Checks.LEAST, -1, 5, Checks.GREATEST}) {
                refused("result's " + what, Checks.ARGUMENT, x -> x.result(f, what));
            }
            accepted("result's 0 and 4", x -> {
                x.result(f, 0);
                x.result(f, 4);
            });
            refusedIf(m.result(f, 1) == 0, "ratio " + f, Checks.ARITHMETIC, x -> x.ratio(f));
            refusedIf(out, "place " + f, Checks.ELEMENT, x -> x.place(f));
            refused("why the same " + f, Checks.ELEMENT, x -> x.why(f, f));
            refused("why outside comes first " + f, Checks.INDEX, x -> x.why(f, fencers));
            int other = m.ranked(f == m.ranked(0) ? Math.min(1, ranked - 1) : 0);
            refusedIf(out || f == other, "why " + f, Checks.ELEMENT, x -> x.why(f, other));
            refusedIf(out || f == other, "why the other is " + f, Checks.ELEMENT, x -> x.why(other, f));
        }
    }

    private void table() {
        FencingMeet now = start.get();
        boolean ready = phase == 1 && now.account(0) == 0 && now.account(1) == 0 && now.meet(4) >= 2;
        refusedIf(!ready, "drawTable", Checks.STATE, FencingMeet::drawTable);
        for (int fencer : new int[] {Checks.LEAST, -1, fencers, Checks.GREATEST}) {
            refused("toGo " + fencer, Checks.INDEX, m -> m.toGo(fencer));
        }
        if (size == 0) {
            for (int number : new int[] {Checks.LEAST, 0, 1, 2, Checks.GREATEST}) {
                refused("seeded " + number, Checks.STATE, m -> m.seeded(number));
                refused("tableBout " + number, Checks.STATE, m -> m.tableBout(number, 0));
            }
            for (int fencer = 0; fencer < fencers; fencer++) {
                int f = fencer;
                refused("toGo " + f, Checks.STATE, m -> m.toGo(f));
            }
        } else {
            tableDrawn();
        }
        for (int place : new int[] {Checks.LEAST, -1, 0, fencers + 1, Checks.GREATEST}) {
            refused("finalist " + place, phase == 3 ? Checks.ELEMENT : Checks.STATE, m -> m.finalist(place));
        }
        for (int place = 1; place <= fencers; place++) {
            int p = place;
            refusedIf(phase != 3, "finalist " + p, Checks.STATE, m -> m.finalist(p));
        }
    }

    /** All fencers of these meets are in the table. */
    private void tableDrawn() {
        for (int seed : new int[] {Checks.LEAST, -1, 0, fencers + 1, size + 1, Checks.GREATEST}) {
            refused("seeded " + seed, Checks.ELEMENT, m -> m.seeded(seed));
        }
        accepted("seeded at the ends", m -> {
            m.seeded(1);
            m.seeded(fencers);
        });
        for (int round : new int[] {Checks.LEAST, -2, 0, 1, 3, 6, 2 * size, Checks.GREATEST}) {
            refused("tableBout " + round + " 0", Checks.ELEMENT, m -> m.tableBout(round, 0));
        }
        for (int round = 2; round <= size; round *= 2) {
            int r = round;
            for (int index : new int[] {Checks.LEAST, -1, r / 2, Checks.GREATEST}) {
                refused("tableBout " + r + " " + index, Checks.ELEMENT, m -> m.tableBout(r, index));
            }
            accepted("tableBout at the ends of " + r, m -> {
                m.tableBout(r, 0);
                m.tableBout(r, r / 2 - 1);
            });
        }
        for (int fencer = 0; fencer < fencers; fencer++) {
            int f = fencer;
            refusedIf(hasLost(f), "toGo " + f, Checks.ELEMENT, m -> m.toGo(f));
        }
    }

    private boolean hasLost(int fencer) {
        FencingMeet m = start.get();
        for (int bout = m.tableBout(size, 0); bout < bouts; bout++) {
            boolean with = m.bout(bout, 0) == fencer || m.bout(bout, 1) == fencer;
            if (with && m.bout(bout, 4) == 2 && m.bout(bout, 5) != fencer) {
                return true;
            }
        }
        return false;
    }

    // ---- promises 29 to 31 ----

    private void relays() {
        int[][] no = {{-1, 0}, {0, -1}, {8, 0}, {0, 8}, {0, 0}, {7, 7}, {-1, -1}, {8, 8},
            {Checks.LEAST, 0}, {0, Checks.GREATEST}};
        for (int[] pair : no) {
            refused("beginRelay " + pair[0] + " " + pair[1], Checks.ARGUMENT, m -> m.beginRelay(pair[0], pair[1]));
        }
        for (int[] pair : new int[][] {{0, 1}, {1, 0}, {0, 7}, {7, 0}, {2, 3}}) {
            boolean few = phase < 2 || inClub(pair[0]) < 3 || inClub(pair[1]) < 3;
            refusedIf(few, "beginRelay " + pair[0] + " " + pair[1], Checks.STATE, m -> m.beginRelay(pair[0], pair[1]));
        }
        Object told = Checks.answerOf(() -> start.get().relay(0));
        if (!(told instanceof Integer)) {
            for (int what : new int[] {Checks.LEAST, -1, 0, 6, 7, Checks.GREATEST}) {
                refused("relay " + what, Checks.ELEMENT, m -> m.relay(what));
            }
        } else {
            for (int what : new int[] {Checks.LEAST, -1, 7, Checks.GREATEST}) {
                refused("relay " + what, Checks.ARGUMENT, m -> m.relay(what));
            }
        }
        if (!(told instanceof Integer) || (Integer) told == 9) {
            for (int[] pair : new int[][] {{0, 0}, {1, 0}, {-1, 0}, {0, -1}, {46, 0}}) {
                refused("leg " + pair[0] + " " + pair[1], Checks.STATE, m -> m.leg(pair[0], pair[1]));
            }
        } else {
            legs(5 * ((Integer) told + 1));
        }
    }

    private void legs(int limit) {
        int one = limit - start.get().relay(1);
        int other = limit - start.get().relay(2);
        int[][] no = {{-1, 0}, {0, -1}, {one + 1, 0}, {0, other + 1}, {one, other + 1}, {one + 1, other},
            {Checks.LEAST, 0}, {0, Checks.LEAST}, {Checks.GREATEST, 0}, {0, Checks.GREATEST}};
        for (int[] pair : no) {
            refused("leg " + pair[0] + " " + pair[1], Checks.ARGUMENT, m -> m.leg(pair[0], pair[1]));
        }
        for (int[] pair : new int[][] {{0, 0}, {one, 0}, {0, other}, {one, other}}) {
            accepted("leg " + pair[0] + " " + pair[1], m -> m.leg(pair[0], pair[1]));
        }
    }

    private int inClub(int club) {
        FencingMeet m = start.get();
        int in = 0;
        for (int fencer = 0; fencer < fencers; fencer++) {
            in += m.fencer(fencer, 0) == club && m.fencer(fencer, 4) == 0 ? 1 : 0;
        }
        return in;
    }

    // ---- promises 32 to 38 ----

    private void accountsAndChanges() {
        for (int what : new int[] {Checks.LEAST, -1, 9, Checks.GREATEST}) {
            refused("account " + what, Checks.ARGUMENT, m -> m.account(what));
        }
        accepted("account 0 and 8", m -> {
            m.account(0);
            m.account(8);
        });
        refusedIf(undoes(start.get()) == 0, "undo", Checks.STATE, FencingMeet::undo);
        Object restored = Checks.answerOf(() -> {
            start.get().restore();
            return "restored";
        });
        boolean saved = name.equals("entries") || name.equals("pools") || name.equals("table");
        Checks.due(name + ": restore", saved ? "restored" : Checks.STATE.getName(), () -> restored);
        if (!saved) {
            refused("restore", Checks.STATE, FencingMeet::restore);
        }
    }

    private static void texts() {
        Supplier<FencingMeet> full = () -> {
            FencingMeet m = Meets.onePool(3);
            Meets.type(m, "000=00:01;".repeat(6));
            return m;
        };
        Checks.fails("append to 60", Checks.STATE, () -> full.get().append('0'));
        Answers.unchanged("append to 60", full, m -> m.append('0'));
        Checks.due("append to 59", 1, () -> {
            FencingMeet m = Meets.onePool(3);
            Meets.type(m, "000=00:01;".repeat(6).substring(0, 59));
            m.append(';');
            return m.readResults();
        });
        // a text with a fault is the one call that throws and changes: the buffer is emptied and the fault is told
        String[] texts = {"", "1", "0=5:1;1=5:0", "0=5:1;x", "2=1:0;0=0:123;2=1:0;"};
        int[] faults = {0, 1, 11, 6, 12};
        for (int i = 0; i < texts.length; i++) {
            String text = texts[i];
            String what = "readResults of " + text;
            Checks.fails(what, Checks.ARGUMENT, () -> withText(text).readResults());
            Supplier<FencingMeet> behind = () -> Answers.behindRefused(() -> withText(text), FencingMeet::readResults);
            Checks.due(what + ": the fault", faults[i], () -> behind.get().faultPosition());
            Answers.same(what, "faultPosition", behind, () -> withText(""));
        }
    }

    private static FencingMeet withText(String text) {
        FencingMeet m = Meets.onePool(3);
        m.enter(1, 2, 5, -1);
        m.begin(0);
        m.touch(0);
        Meets.type(m, text);
        return m;
    }
}
