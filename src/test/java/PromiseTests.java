import java.util.NoSuchElementException;

/** For each promise of the document: ordinary calls, the edges that it names, and wrong inputs, with the answers due. */
public final class PromiseTests {
    private static final Class<IllegalArgumentException> ARGUMENT = IllegalArgumentException.class;
    private static final Class<IllegalStateException> STATE = IllegalStateException.class;
    private static final Class<IndexOutOfBoundsException> INDEX = IndexOutOfBoundsException.class;
    private static final Class<NoSuchElementException> ELEMENT = NoSuchElementException.class;
    private static final Class<UnsupportedOperationException> UNSUPPORTED = UnsupportedOperationException.class;
    private static final Class<ArithmeticException> ARITHMETIC = ArithmeticException.class;
    private static final int LEAST = Integer.MIN_VALUE;
    private static final int GREATEST = Integer.MAX_VALUE;

    private PromiseTests() {
    }

    public static void main(String[] args) {
        entries();
        pools();
        seeds();
        bouts();
        touches();
        timeAndPriority();
        cards();
        enteredResults();
        ranking();
        table();
        finalPlaces();
        relays();
        accounts();
        texts();
        changes();
        Checks.end("PromiseTests");
    }

    // ---- what the tests start from ----

    /** Fencers by pairs of club and strength. */
    private static FencingMeet with(int... clubsAndStrengths) {
        FencingMeet m = new FencingMeet();
        for (int i = 0; i < clubsAndStrengths.length; i += 2) {
            m.addFencer(clubsAndStrengths[i], clubsAndStrengths[i + 1]);
        }
        return m;
    }

    /** One pool of as many fencers, fencer 0 the strongest, all of club 0. */
    private static FencingMeet onePool(int fencers) {
        FencingMeet m = new FencingMeet();
        for (int i = 0; i < fencers; i++) {
            m.addFencer(0, i + 1);
        }
        m.drawPools(1);
        return m;
    }

    /** One pool of two clubs by turns, in which the left side, the stronger one, won each bout. */
    private static FencingMeet fought(int fencers) {
        FencingMeet m = new FencingMeet();
        for (int i = 0; i < fencers; i++) {
            m.addFencer(i % 2, i + 1);
        }
        int bouts = m.drawPools(1);
        for (int bout = 0; bout < bouts; bout++) {
            m.enter(bout, 5, 1, -1);
        }
        return m;
    }

    private static FencingMeet withTable(int fencers) {
        FencingMeet m = fought(fencers);
        m.drawTable();
        return m;
    }

    private static void type(FencingMeet m, String text) {
        for (char c : text.toCharArray()) {
            m.append(c);
        }
    }

    // ---- promises 1 to 9 ----

    private static void entries() {
        FencingMeet m = new FencingMeet();
        for (int what = 0; what <= 5; what++) {
            int asked = what;
            Checks.due("1: meet of a new one " + what, 0, () -> m.meet(asked));
        }
        Checks.due("1: the first seed", 1, () -> m.setSeed(1));
        Checks.due("1: no fault", -1, m::faultPosition);
        Checks.fails("1: nothing to undo", STATE, m::undo);
        Checks.fails("1: nothing saved", STATE, m::restore);
        Checks.fails("1: nothing refused", ELEMENT, m::refusal);

        Checks.fails("2: club below", ARGUMENT, () -> m.addFencer(-1, 1));
        Checks.fails("2: club above", ARGUMENT, () -> m.addFencer(8, 1));
        Checks.fails("2: strength below", ARGUMENT, () -> m.addFencer(0, 0));
        Checks.fails("2: strength above", ARGUMENT, () -> m.addFencer(0, 1000));
        Checks.fails("2: far off", ARGUMENT, () -> m.addFencer(LEAST, GREATEST));
        Checks.due("2: none of these entered", 0, () -> m.meet(1));
        Checks.due("2: first", 0, () -> m.addFencer(7, 999));
        Checks.due("2: second", 1, () -> m.addFencer(0, 1));
        for (int i = 2; i < 24; i++) {
            int number = i;
            Checks.due("2: number " + i, number, () -> m.addFencer(3, 5));
        }
        Checks.fails("2: the 25th", STATE, () -> m.addFencer(3, 5));
        Checks.fails("2: the argument comes first", ARGUMENT, () -> m.addFencer(3, 0));
        Checks.due("2: 24 are entered", 24, () -> m.meet(1));
        Checks.fails("2: in phase 1", STATE, () -> onePool(3).addFencer(0, 1));

        FencingMeet two = with(7, 999, 0, 1, 2, 3);
        int[] entered = {7, 999, -1, -1, 0, 0, 0, 0};
        for (int what = 0; what <= 7; what++) {
            int asked = what;
            Checks.due("5: entered " + what, entered[what], () -> two.fencer(0, asked));
        }
        Checks.fails("5: fencer below", INDEX, () -> two.fencer(-1, 0));
        Checks.fails("5: fencer above", INDEX, () -> two.fencer(3, 0));
        Checks.fails("5: fencer first", INDEX, () -> two.fencer(3, 8));
        Checks.fails("5: what below", ARGUMENT, () -> two.fencer(0, -1));
        Checks.fails("5: what above", ARGUMENT, () -> two.fencer(0, 8));
        two.drawPools(1);
        Checks.due("5: pool", 0, () -> two.fencer(0, 2));
        Checks.due("5: the weakest is the last member", 2, () -> two.fencer(0, 3));
        Checks.due("5: the strongest is the first member", 0, () -> two.fencer(1, 3));

        Checks.fails("6: below", ARGUMENT, () -> two.meet(-1));
        Checks.fails("6: above", ARGUMENT, () -> two.meet(6));
        Checks.due("6: phase", 1, () -> two.meet(0));
        Checks.due("6: fencers", 3, () -> two.meet(1));
        Checks.due("6: pools", 1, () -> two.meet(2));
        Checks.due("6: bouts", 3, () -> two.meet(3));
        Checks.due("6: in", 3, () -> two.meet(4));
        Checks.due("6: no table", 0, () -> two.meet(5));
        two.begin(0);
        two.card(1, 2);
        Checks.due("6: all fencers", 3, () -> two.meet(1));
        Checks.due("6: in after a black card", 2, () -> two.meet(4));
        Checks.due("6: table size", 8, () -> withTable(5).meet(5));
        Checks.due("6: bouts with those of the table", 10 + 7, () -> withTable(5).meet(3));
        Checks.due("6: phase of the table", 2, () -> withTable(5).meet(0));
    }

    private static void pools() {
        Checks.fails("3: below", ARGUMENT, () -> with().drawPools(0));
        Checks.fails("3: above", ARGUMENT, () -> with().drawPools(7));
        Checks.fails("3: far off", ARGUMENT, () -> with().drawPools(GREATEST));
        Checks.fails("3: two fencers", STATE, () -> with(0, 1, 0, 2).drawPools(1));
        Checks.fails("3: a pool of two", STATE, () -> with(0, 1, 0, 2, 0, 3, 0, 4, 0, 5).drawPools(2));
        Checks.fails("3: the argument comes first", ARGUMENT, () -> onePool(3).drawPools(7));
        Checks.fails("3: drawn already", STATE, () -> onePool(3).drawPools(1));
        Checks.due("3: one pool of 24", 276, () -> onePool(24).meet(3));
        FencingMeet six = with(0, 1, 0, 2, 0, 3, 0, 4, 0, 5, 0, 6, 0, 7, 0, 8, 0, 9, 0, 10, 0, 11, 0, 12, 0, 13,
                0, 14, 0, 15, 0, 16, 0, 17);
        Checks.fails("3: six pools of 17", STATE, () -> six.drawPools(6));
        six.addFencer(0, 18);
        Checks.due("3: six pools of 18", 18, () -> six.drawPools(6));
        Checks.due("7: members of the last one", 3, () -> six.members(5));

        // rows by strength: 4 1 2 / 0 5 3 / 6 7 8; the second row goes from the last pool on
        FencingMeet m = with(0, 5, 0, 3, 1, 3, 2, 9, 1, 1, 0, 7, 1, 20, 3, 30, 3, 40);
        Checks.due("3: three pools of three", 9, () -> m.drawPools(3));
        // row 1: 0 goes to the last pool without its club 0, 5 to pool 0, as pool 1 has that club, and 3 to what is left
        int[][] members = {{4, 5, 7}, {1, 3, 6}, {2, 0, 8}};
        for (int pool = 0; pool < 3; pool++) {
            int p = pool;
            Checks.due("7: members of " + p, 3, () -> m.members(p));
            for (int index = 0; index < 3; index++) {
                int i = index;
                int want = members[pool][index];
                Checks.due("8: member " + p + " " + i, want, () -> m.member(p, i));
                Checks.due("5: pool of " + want, p, () -> m.fencer(want, 2));
                Checks.due("5: number of " + want, i, () -> m.fencer(want, 3));
            }
        }
        Checks.fails("7: below", INDEX, () -> m.members(-1));
        Checks.fails("7: above", INDEX, () -> m.members(3));
        Checks.fails("7: phase 0", INDEX, () -> with(0, 1).members(0));
        Checks.fails("8: pool below", INDEX, () -> m.member(-1, 0));
        Checks.fails("8: pool above", INDEX, () -> m.member(3, 9));
        Checks.fails("8: member below", ELEMENT, () -> m.member(0, -1));
        Checks.fails("8: member above", ELEMENT, () -> m.member(0, 3));
        Checks.due("9: no pair", 0, m::clubPairs);

        FencingMeet snake = with(0, 1, 1, 2, 2, 3, 3, 4, 4, 5, 5, 6, 6, 7);
        Checks.due("3: pools of four and three", 6 + 3, () -> snake.drawPools(2));
        Checks.due("3: row 0 ascends", 0, () -> snake.member(0, 0));
        Checks.due("3: row 0 ascends, then", 1, () -> snake.member(1, 0));
        Checks.due("3: row 1 descends", 2, () -> snake.member(1, 1));
        Checks.due("3: row 1 descends, then", 3, () -> snake.member(0, 1));
        Checks.due("3: row 2 ascends", 4, () -> snake.member(0, 2));
        Checks.due("3: the last row is smaller, and descends", 6, () -> snake.member(1, 3));
        Checks.due("7: the smaller pool", 3, () -> snake.members(0));
        Checks.due("7: the larger pool", 4, () -> snake.members(1));

        Checks.due("9: phase 0", 0, () -> with(0, 1, 0, 2, 0, 3).clubPairs());
        Checks.due("9: all of one club", 6, () -> onePool(4).clubPairs());
        FencingMeet pairs = with(0, 1, 0, 2, 0, 3, 1, 4, 1, 5, 1, 6);
        pairs.drawPools(2);
        Checks.due("9: two pools", 2, pairs::clubPairs);
        pairs.begin(0);
        pairs.card(0, 2);
        Checks.due("9: members stay", 2, pairs::clubPairs);
    }

    private static void seeds() {
        FencingMeet m = new FencingMeet();
        Checks.due("4: the first one", 1, () -> m.setSeed(7));
        Checks.due("4: the one before", 7, () -> m.setSeed(GREATEST));
        Checks.due("4: the greatest", GREATEST, () -> m.setSeed(0));
        Checks.fails("4: negative", ARGUMENT, () -> m.setSeed(-1));
        Checks.fails("4: most negative", ARGUMENT, () -> m.setSeed(LEAST));
        Checks.due("4: unchanged", 0, () -> m.setSeed(0));
        m.addFencer(0, 1);
        Checks.fails("4: a negative one forgets nothing", ARGUMENT, () -> m.setSeed(-5));
        Checks.due("4: so that undo goes on", 0, m::undo);
        m.addFencer(0, 1);
        Checks.due("4: the same", 0, () -> m.setSeed(0));
        Checks.fails("4: forgets the changes", STATE, m::undo);
    }

    // ---- promises 10 to 18 ----

    private static void bouts() {
        FencingMeet m = onePool(4);
        int[][] pairs = {{0, 1}, {0, 2}, {0, 3}, {1, 2}, {1, 3}, {2, 3}};
        for (int bout = 0; bout < 6; bout++) {
            int[] pair = pairs[bout];
            int b = bout;
            Checks.due("10: left of " + b, pair[0], () -> m.bout(b, 0));
            Checks.due("10: right of " + b, pair[1], () -> m.bout(b, 1));
            Checks.due("12: bout of " + b, b, () -> m.poolBout(pair[0], pair[1]));
            Checks.due("12: bout of " + b + " turned round", b, () -> m.poolBout(pair[1], pair[0]));
        }
        int[] fresh = {0, 1, 0, 0, 0, -1, 0, 5, -1};
        for (int what = 0; what <= 8; what++) {
            int asked = what;
            Checks.due("10: to come " + what, fresh[what], () -> m.bout(0, asked));
        }
        Checks.fails("10: bout below", INDEX, () -> m.bout(-1, 0));
        Checks.fails("10: bout above", INDEX, () -> m.bout(6, 9));
        Checks.fails("10: what below", ARGUMENT, () -> m.bout(0, -1));
        Checks.fails("10: what above", ARGUMENT, () -> m.bout(0, 9));

        FencingMeet two = with(0, 1, 1, 2, 2, 3, 3, 4, 4, 5, 5, 6);
        two.drawPools(2);
        Checks.due("10: pool of the last bout", 1, () -> two.bout(5, 6));
        Checks.due("10: pool of the third bout", 0, () -> two.bout(2, 6));
        Checks.fails("12: not in the same pool", ELEMENT, () -> two.poolBout(0, 1));
        Checks.fails("12: the same", ELEMENT, () -> two.poolBout(2, 2));
        Checks.fails("12: one below", INDEX, () -> two.poolBout(-1, 0));
        Checks.fails("12: other above", INDEX, () -> two.poolBout(0, 6));
        Checks.fails("12: the index comes first", INDEX, () -> two.poolBout(6, 6));
        Checks.fails("12: phase 0", ELEMENT, () -> with(0, 1, 0, 2).poolBout(0, 1));
        FencingMeet late = withTable(4);
        Checks.due("12: not the bout of the table", 2, () -> late.poolBout(0, 3));

        Checks.fails("11: none", ELEMENT, m::current);
        Checks.due("13: target", 5, () -> m.begin(3));
        Checks.due("11: in progress", 3, m::current);
        Checks.due("13: state", 1, () -> m.bout(3, 4));
        Checks.fails("13: one is in progress", UNSUPPORTED, () -> m.begin(0));
        Checks.fails("13: below", INDEX, () -> m.begin(-1));
        Checks.fails("13: above", INDEX, () -> m.begin(6));
        m.touch(0);
        m.time();
        Checks.fails("11: over", ELEMENT, m::current);
        Checks.fails("13: not to come", UNSUPPORTED, () -> m.begin(3));
        Checks.due("13: another", 5, () -> m.begin(5));

        FencingMeet table = withTable(3);
        Checks.due("13: table", 15, () -> table.begin(4));
        table.undo();
        Checks.fails("13: a bye", UNSUPPORTED, () -> table.begin(3));
        Checks.fails("13: one not known", UNSUPPORTED, () -> table.begin(5));
        int[] bye = {0, -1, 0, 0, 4, 0, 104, 15, -1};
        int[] semi = {1, 2, 0, 0, 0, -1, 104, 15, -1};
        int[] last = {0, -1, 0, 0, 0, -1, 102, 15, -1};
        for (int what = 0; what <= 8; what++) {
            int asked = what;
            Checks.due("10: bye " + what, bye[what], () -> table.bout(3, asked));
            Checks.due("10: semifinal " + what, semi[what], () -> table.bout(4, asked));
            Checks.due("10: final " + what, last[what], () -> table.bout(5, asked));
        }
    }

    private static void touches() {
        FencingMeet m = onePool(3);
        Checks.fails("14: none in progress", STATE, () -> m.touch(0));
        Checks.fails("14: the argument comes first", ARGUMENT, () -> m.touch(3));
        m.begin(1);
        Checks.fails("14: below", ARGUMENT, () -> m.touch(-1));
        Checks.fails("14: above", ARGUMENT, () -> m.touch(3));
        Checks.due("14: left", 1, () -> m.touch(0));
        Checks.due("14: right", 1, () -> m.touch(1));
        Checks.due("14: both", 1, () -> m.touch(2));
        Checks.due("14: both again", 1, () -> m.touch(2));
        Checks.due("10: touches of the left", 3, () -> m.bout(1, 2));
        m.touch(1);
        Checks.due("10: touches of the right", 4, () -> m.bout(1, 3));
        Checks.due("14: a double touch that does not count", 1, () -> m.touch(2));
        Checks.due("14: left as it was", 3, () -> m.bout(1, 2));
        Checks.due("14: right as it was", 4, () -> m.bout(1, 3));
        Checks.due("14: is a change all the same", 7, m::undo);
        Checks.due("14: and nothing else was one", 4, () -> m.bout(1, 3));
        Checks.due("14: the target", 2, () -> m.touch(1));
        Checks.due("14: the winner", 2, () -> m.bout(1, 5));
        Checks.due("14: the left side's touches", 3, () -> m.bout(1, 2));
        Checks.fails("14: over", STATE, () -> m.touch(0));
        m.begin(0);
        for (int i = 0; i < 4; i++) {
            m.touch(0);
        }
        m.touch(2);
        Checks.due("14: 1 less than the target on the left", 0, () -> m.bout(0, 3));
        m.undo();
        m.undo();
        m.touch(2);
        Checks.due("14: 2 less than the target on the left", 1, () -> m.bout(0, 3));
        m.undo();
        m.touch(0);
        Checks.due("14: the left side wins", 2, () -> m.touch(0));
        Checks.due("14: the left side has won", 0, () -> m.bout(0, 5));

        FencingMeet table = withTable(2 + 1);
        table.begin(4);
        for (int i = 0; i < 14; i++) {
            Checks.due("14: below the target of the table", 1, () -> table.touch(1));
        }
        table.touch(2);
        Checks.due("14: double at 14", 0, () -> table.bout(4, 2));
        Checks.due("14: 15", 2, () -> table.touch(1));
        Checks.due("14: advances", 2, () -> table.bout(5, 1));
    }

    private static void timeAndPriority() {
        FencingMeet m = onePool(3);
        Checks.fails("15: none in progress", STATE, m::time);
        m.begin(0);
        m.touch(1);
        Checks.due("15: more touches on the right", 2, m::time);
        Checks.due("15: right wins", 1, () -> m.bout(0, 5));
        Checks.due("15: without priority", -1, () -> m.bout(0, 8));
        m.undo();
        m.touch(0);
        m.touch(0);
        m.time();
        Checks.due("15: left wins", 0, () -> m.bout(0, 5));

        // 1 * 1103515245 + 12345 is 1103527590; divided by 65536 it is 16838, which is even
        m.setSeed(1);
        m.begin(1);
        m.touch(2);
        Checks.due("15: equal", 1, m::time);
        Checks.due("15: the left side is drawn", 0, () -> m.bout(1, 8));
        Checks.due("15: a double touch does not count", 1, () -> m.touch(2));
        Checks.due("15: so the touches stay", 1, () -> m.bout(1, 2));
        Checks.due("15: time again", 2, m::time);
        Checks.due("15: the priority wins", 0, () -> m.bout(1, 5));
        Checks.due("15: and stays", 0, () -> m.bout(1, 8));
        m.undo();
        Checks.due("15: a touch of the other side", 2, () -> m.touch(1));
        Checks.due("15: wins", 2, () -> m.bout(1, 5));
        Checks.due("15: and counts", 2, () -> m.bout(1, 3));
        m.undo();
        Checks.due("15: a red card for the left side", 1, () -> m.card(0, 1));
        Checks.due("15: is a touch that wins", 2, () -> m.bout(1, 5));

        // what is drawn is kept for the next time: 1103527590 becomes 377401575, then 5758
        m.begin(2);
        m.time();
        Checks.due("15: the second number", 0, () -> m.bout(2, 8));
        m.time();
        int[] sides = new int[12];
        long z = 5;
        for (int i = 0; i < sides.length; i++) {
            z = (z * 1103515245L + 12345L) % 2147483648L;
            sides[i] = (int) (z / 65536 % 2);
        }
        FencingMeet many = onePool(6);
        many.setSeed(5);
        for (int bout = 0; bout < sides.length; bout++) {
            int b = bout;
            many.begin(b);
            many.time();
            Checks.due("15: drawn " + b, sides[b], () -> many.bout(b, 8));
            many.time();
        }
        FencingMeet greatest = onePool(3);
        greatest.setSeed(GREATEST);
        greatest.begin(0);
        greatest.time();
        long next = (GREATEST * 1103515245L + 12345L) % 2147483648L;
        Checks.due("15: from the greatest seed", (int) (next / 65536 % 2), () -> greatest.bout(0, 8));
    }

    private static void cards() {
        FencingMeet m = onePool(4);
        Checks.fails("16: none in progress", STATE, () -> m.card(0, 0));
        Checks.fails("16: side below", ARGUMENT, () -> m.card(-1, 0));
        Checks.fails("16: side above", ARGUMENT, () -> m.card(2, 0));
        Checks.fails("16: kind below", ARGUMENT, () -> m.card(0, -1));
        Checks.fails("16: kind above", ARGUMENT, () -> m.card(0, 3));
        m.begin(0);
        Checks.due("16: yellow", 0, () -> m.card(0, 0));
        Checks.due("16: gives no touch", 0, () -> m.bout(0, 3));
        Checks.due("16: yellow for the other", 0, () -> m.card(1, 0));
        Checks.due("16: a second yellow", 1, () -> m.card(0, 0));
        Checks.due("16: gives a touch", 1, () -> m.bout(0, 3));
        Checks.due("5: yellow cards", 1, () -> m.fencer(0, 5));
        Checks.due("5: red cards", 1, () -> m.fencer(0, 6));
        Checks.due("5: yellow cards of the other", 1, () -> m.fencer(1, 5));
        Checks.due("16: red for the right side", 1, () -> m.card(1, 1));
        Checks.due("16: gives the left side a touch", 1, () -> m.bout(0, 2));
        m.undo();
        m.touch(0);
        m.time();
        m.undo();
        m.touch(0);
        m.time();
        m.begin(1);
        Checks.due("16: red at once", 1, () -> m.card(0, 1));
        Checks.due("16: yellow behind red", 1, () -> m.card(0, 0));
        Checks.due("5: still one yellow", 1, () -> m.fencer(0, 5));
        Checks.due("5: three red", 3, () -> m.fencer(0, 6));
        m.card(0, 1);
        m.card(0, 1);
        Checks.due("16: goes on", 1, () -> m.bout(1, 4));
        Checks.due("16: the fifth", 1, () -> m.card(0, 1));
        Checks.due("16: can finish the bout", 2, () -> m.bout(1, 4));
        Checks.due("16: the other side wins", 2, () -> m.bout(1, 5));
        m.begin(2);
        Checks.due("16: another bout begins anew", 0, () -> m.card(0, 0));
        m.time();
        Checks.due("16: black", 2, () -> m.card(1, 2));
        Checks.due("5: black cards", 1, () -> m.fencer(3, 7));
        Checks.due("5: excluded", 1, () -> m.fencer(3, 4));
        Checks.due("5: not excluded", 0, () -> m.fencer(0, 4));
        Checks.fails("16: over", ELEMENT, m::current);
        for (int bout : new int[] {2, 4, 5}) {
            int b = bout;
            Checks.due("16: annulled " + b, 3, () -> m.bout(b, 4));
            Checks.due("16: no winner " + b, -1, () -> m.bout(b, 5));
            Checks.due("16: no priority " + b, -1, () -> m.bout(b, 8));
            Checks.due("16: right side stays " + b, 3, () -> m.bout(b, 1));
        }
        Checks.due("16: others stand", 2, () -> m.bout(1, 4));
        Checks.due("16: others are to come", 0, () -> m.bout(3, 4));
        m.begin(3);
        Checks.due("16: left black", 2, () -> m.card(0, 2));
        Checks.due("16: finished ones are annulled too", 3, () -> m.bout(0, 4));
        Checks.due("16: without touches", 0, () -> m.bout(0, 2) + m.bout(0, 3));
        Checks.due("16: without a winner", -1, () -> m.bout(0, 5));

        FencingMeet table = withTable(4);
        table.begin(6);
        table.touch(0);
        table.touch(0);
        table.touch(1);
        Checks.due("16: black in the table", 2, () -> table.card(0, 2));
        Checks.due("16: finished", 2, () -> table.bout(6, 4));
        Checks.due("16: touches as they are", 2, () -> table.bout(6, 2));
        Checks.due("16: touches of the other", 1, () -> table.bout(6, 3));
        Checks.due("16: the other side wins the bout", 3, () -> table.bout(6, 5));
        Checks.due("16: and advances", 3, () -> table.bout(8, 0));
        Checks.due("16: bouts of the pool stand", 2, () -> table.bout(0, 4));
        FencingMeet last = onePool(24);
        last.begin(275);
        for (int kind = 0; kind < 3; kind++) {
            last.card(1, kind);
        }
        for (int kind = 0; kind < 3; kind++) {
            int what = 5 + kind;
            Checks.due("5: card of the last fencer " + what, 1, () -> last.fencer(23, what));
            Checks.due("5: card of the one before " + what, 0, () -> last.fencer(22, what));
        }
        Checks.due("32: cards of the last fencer", 3, () -> last.account(7));
        Checks.due("16: black behind yellow", 2, () -> {
            table.begin(7);
            table.card(1, 0);
            return table.card(1, 2);
        });
        Checks.due("6: phase goes on", 2, () -> table.meet(0));
    }

    private static void enteredResults() {
        FencingMeet m = onePool(4);
        Checks.fails("18: none", ELEMENT, m::refusal);
        Checks.fails("17: below", INDEX, () -> m.enter(-1, 5, 0, -1));
        Checks.fails("17: above", INDEX, () -> m.enter(6, 5, 0, -1));
        Checks.fails("18: still none", ELEMENT, m::refusal);
        refused(m, 4, 0, -1, 0, -1);
        refused(m, 4, 0, 6, 0, -1);
        refused(m, 4, 0, 0, -1, -1);
        refused(m, 4, 0, 0, 6, 3);
        refused(m, 4, 0, 6, 6, 0);
        refused(m, 4, 0, LEAST, GREATEST, 0);
        refused(m, 5, 0, 5, 5, 0);
        refused(m, 5, 0, 5, 5, -1);
        refused(m, 6, 0, 3, 3, -1);
        refused(m, 6, 0, 3, 3, 2);
        refused(m, 6, 0, 5, 3, 0);
        refused(m, 6, 0, 3, 5, 1);
        refused(m, 6, 0, 3, 5, -2);
        Checks.due("17: left wins", 0, () -> m.enter(0, 5, 3, -1));
        Checks.due("17: right wins", 2, () -> m.enter(1, 2, 3, -1));
        Checks.due("17: equal, left wins", 0, () -> m.enter(2, 0, 0, 0));
        Checks.due("17: equal, right wins", 2, () -> m.enter(3, 4, 4, 1));
        Checks.due("17: touches of the left", 4, () -> m.bout(3, 2));
        Checks.due("17: touches of the right", 3, () -> m.bout(1, 3));
        Checks.due("17: state", 2, () -> m.bout(3, 4));
        Checks.due("17: no priority", -1, () -> m.bout(3, 8));
        refused(m, 1, 0, 9, 9, 9);
        m.begin(4);
        refused(m, 1, 4, 5, 0, -1);
        refused(m, 2, 5, 9, 9, 9);
        Checks.due("17: state of the refused one", 0, () -> m.bout(5, 4));
        m.undo();
        Checks.due("18: stays behind undo", 2, m::refusal);
        m.enter(4, 1, 0, -1);
        Checks.due("18: stays behind a good one", 2, m::refusal);

        FencingMeet table = withTable(3);
        refused(table, 1, 3, 15, 0, -1);
        refused(table, 3, 5, 99, 0, -1);
        refused(table, 4, 4, 16, 0, -1);
        refused(table, 5, 4, 15, 15, 1);
        table.begin(4);
        refused(table, 2, 5, 15, 0, -1);
        table.undo();
        Checks.due("17: in the table", 2, () -> table.enter(4, 14, 15, -1));
        Checks.due("17: the final", 0, () -> table.enter(5, 7, 7, 0));
        FencingMeet right = withTable(4);
        right.enter(7, 15, 0, -1);
        refused(right, 3, 8, 15, 0, -1);
        Checks.fails("13: the left one is not known", UNSUPPORTED, () -> right.begin(8));
        Checks.due("17: over", 3, () -> table.meet(0));
    }

    private static void refused(FencingMeet m, int reason, int bout, int left, int right, int winner) {
        String what = "17: " + bout + " " + left + ":" + right + " " + winner;
        Checks.fails(what, UNSUPPORTED, () -> m.enter(bout, left, right, winner));
        Checks.due("18: reason of " + what, reason, m::refusal);
    }

    // ---- promises 19 to 28 ----

    private static void ranking() {
        FencingMeet m = with(0, 9, 0, 3, 0, 3, 0, 1);
        int[] byStrength = {3, 1, 2, 0};
        for (int i = 0; i < 4; i++) {
            int index = i;
            Checks.due("21: by strength " + i, byStrength[i], () -> m.ranked(index));
            Checks.due("22: by strength " + i, index, () -> m.place(byStrength[index]));
        }
        Checks.due("23: stronger", 4, () -> m.why(3, 0));
        Checks.due("23: weaker", -4, () -> m.why(0, 3));
        Checks.due("23: equal strength", 4, () -> m.why(1, 2));
        Checks.due("23: equal strength, turned round", -4, () -> m.why(2, 1));
        m.drawPools(1);
        // members are 3 1 2 0, bouts 3-1, 3-2, 3-0, 1-2, 1-0, 2-0
        m.enter(0, 5, 2, -1);
        int[] winner = {1, 1, 5, 2, 3};
        int[] loser = {0, 1, 2, 5, -3};
        for (int what = 0; what <= 4; what++) {
            int asked = what;
            Checks.due("19: winner " + what, winner[what], () -> m.result(3, asked));
            Checks.due("19: loser " + what, loser[what], () -> m.result(1, asked));
            Checks.due("19: no bout " + what, 0, () -> m.result(0, asked));
        }
        Checks.fails("19: fencer below", INDEX, () -> m.result(-1, 0));
        Checks.fails("19: fencer above", INDEX, () -> m.result(4, 5));
        Checks.fails("19: what below", ARGUMENT, () -> m.result(0, -1));
        Checks.fails("19: what above", ARGUMENT, () -> m.result(0, 5));
        Checks.due("20: all", 1.0, () -> m.ratio(3));
        Checks.due("20: none", 0.0, () -> m.ratio(1));
        Checks.fails("20: no bout counts", ARITHMETIC, () -> m.ratio(0));
        Checks.fails("20: below", INDEX, () -> m.ratio(-1));
        Checks.fails("20: above", INDEX, () -> m.ratio(4));
        Checks.due("23: no bout is a ratio of 0, so the indicator tells", 2, () -> m.why(0, 1));
        Checks.due("23: ratio", 1, () -> m.why(3, 0));
        Checks.due("23: ratio, turned round", -1, () -> m.why(0, 3));
        m.begin(1);
        m.touch(0);
        Checks.due("19: a bout in progress does not count", 1, () -> m.result(3, 1));
        m.undo();
        m.undo();
        m.enter(3, 3, 2, -1);
        m.enter(5, 2, 2, 1);
        // 1 has 1 of 2, 5:7; 2 has 0 of 2, 4:5; 0 has 1 of 1, 2:2; 3 has 1 of 1, 5:2
        Checks.due("20: a half", 0.5, () -> m.ratio(1));
        Checks.due("23: indicator", 2, () -> m.why(3, 0));
        Checks.due("23: indicator, turned round", -2, () -> m.why(0, 3));
        Checks.due("23: ratio before indicator", 1, () -> m.why(1, 2));
        int[] order = {3, 0, 1, 2};
        for (int i = 0; i < 4; i++) {
            int index = i;
            Checks.due("21: place " + i, order[i], () -> m.ranked(index));
            Checks.due("22: place " + i, index, () -> m.place(order[index]));
        }
        m.undo();
        m.undo();
        m.enter(5, 5, 2, -1);
        Checks.due("22: counted anew", 1, () -> m.place(2));
        Checks.due("23: all equal but the strength", 4, () -> m.why(3, 2));
        m.undo();
        m.enter(5, 4, 1, -1);
        Checks.due("23: touches scored", 3, () -> m.why(3, 2));
        Checks.due("23: touches scored, turned round", -3, () -> m.why(2, 3));
        Checks.due("23: touches scored by the losers", 3, () -> m.why(1, 0));
        Checks.fails("21: below", ELEMENT, () -> m.ranked(-1));
        Checks.fails("21: above", ELEMENT, () -> m.ranked(4));
        Checks.fails("22: below", INDEX, () -> m.place(-1));
        Checks.fails("22: above", INDEX, () -> m.place(4));
        Checks.fails("23: the same", ELEMENT, () -> m.why(1, 1));
        Checks.fails("23: one below", INDEX, () -> m.why(-1, 1));
        Checks.fails("23: other above", INDEX, () -> m.why(1, 4));
        Checks.fails("23: the index comes first", INDEX, () -> m.why(4, 4));
        m.begin(1);
        m.card(0, 2);
        Checks.fails("22: excluded", ELEMENT, () -> m.place(3));
        Checks.fails("23: one excluded", ELEMENT, () -> m.why(3, 0));
        Checks.fails("23: other excluded", ELEMENT, () -> m.why(0, 3));
        Checks.fails("23: excluded, and an index above", INDEX, () -> m.why(3, 4));
        Checks.fails("21: one less", ELEMENT, () -> m.ranked(3));
        Checks.due("21: the first one now", 2, () -> m.ranked(0));
        Checks.due("19: annulled bouts do not count", 0, () -> m.result(1, 1));
        Checks.fails("20: annulled bouts do not count", ARITHMETIC, () -> m.ratio(3));

        // 1 of 3 against 2 of 6 would be equal: thirds are compared exactly
        FencingMeet thirds = onePool(7);
        thirds.enter(thirds.poolBout(0, 1), 5, 0, -1);
        thirds.enter(thirds.poolBout(0, 2), 0, 5, -1);
        thirds.enter(thirds.poolBout(0, 3), 0, 5, -1);
        int[] others = {1, 2, 3, 4, 5};
        for (int other : others) {
            boolean wins = other == 1 || other == 2;
            thirds.enter(thirds.poolBout(other, 6), wins ? 0 : 1, wins ? 1 : 0, -1);
        }
        thirds.enter(thirds.poolBout(0, 6), 0, 1, -1);
        thirds.undo();
        thirds.begin(thirds.poolBout(0, 6));
        thirds.touch(0);
        thirds.undo();
        thirds.undo();
        Checks.due("23: 1 of 3 is less than 2 of 5", -1, () -> thirds.why(0, 6));
        thirds.enter(thirds.poolBout(0, 6), 5, 0, -1);
        Checks.due("23: 2 of 4 is more than 2 of 6", 1, () -> thirds.why(0, 6));
    }

    private static void table() {
        Checks.fails("24: phase 0", STATE, () -> with(0, 1, 0, 2).drawTable());
        FencingMeet m = fought(6);
        m.undo();
        Checks.fails("24: a bout is to come", STATE, m::drawTable);
        Checks.fails("25: no table", STATE, () -> m.seeded(1));
        Checks.fails("26: no table", STATE, () -> m.tableBout(2, 0));
        Checks.fails("28: no table", STATE, () -> m.toGo(0));
        Checks.fails("28: the index comes first", INDEX, () -> m.toGo(6));
        m.begin(14);
        Checks.fails("24: a bout is in progress", STATE, m::drawTable);
        m.undo();
        m.enter(14, 5, 1, -1);
        Checks.due("24: six fencers", 8, m::drawTable);
        Checks.fails("24: drawn already", STATE, m::drawTable);
        int[] sizes = {0, 0, 0, 4, 4, 8, 8, 8, 8, 16};
        for (int n = 3; n <= 9; n++) {
            int fencers = n;
            Checks.due("24: size for " + n, sizes[n], () -> fought(fencers).drawTable());
        }
        FencingMeet two = onePool(3);
        two.begin(0);
        two.card(0, 2);
        two.enter(2, 5, 1, -1);
        Checks.due("24: two fencers", 2, two::drawTable);
        Checks.due("24: the final alone", 4, () -> two.meet(3));
        Checks.due("24: its left side", 1, () -> two.bout(3, 0));
        Checks.due("24: its right side", 2, () -> two.bout(3, 1));
        Checks.due("28: one to go", 1, () -> two.toGo(2));
        Checks.fails("28: not in the table", ELEMENT, () -> two.toGo(0));
        Checks.fails("25: the excluded one has no seed", ELEMENT, () -> two.seeded(3));
        FencingMeet alone = onePool(3);
        alone.begin(0);
        alone.card(0, 2);
        alone.begin(2);
        alone.card(0, 2);
        Checks.fails("24: one fencer", STATE, alone::drawTable);

        for (int seed = 1; seed <= 6; seed++) {
            int asked = seed;
            Checks.due("25: seed " + seed, seed - 1, () -> m.seeded(asked));
        }
        Checks.fails("25: below", ELEMENT, () -> m.seeded(0));
        Checks.fails("25: far below", ELEMENT, () -> m.seeded(LEAST));
        Checks.fails("25: a seed of a bye", ELEMENT, () -> m.seeded(7));
        Checks.fails("25: above", ELEMENT, () -> m.seeded(GREATEST));

        // 1 8 4 5 2 7 3 6
        int[] left = {0, 3, 1, 2, 0, 1, -1};
        int[] right = {-1, 4, -1, 5, -1, -1, -1};
        int[] states = {4, 0, 4, 0, 0, 0, 0};
        for (int i = 0; i < 7; i++) {
            int b = i;
            Checks.due("24: left of bout " + b, left[b], () -> m.bout(15 + b, 0));
            Checks.due("24: right of bout " + b, right[b], () -> m.bout(15 + b, 1));
            Checks.due("24: state of bout " + b, states[b], () -> m.bout(15 + b, 4));
            int round = b < 4 ? 8 : b < 6 ? 4 : 2;
            int index = b < 4 ? b : b < 6 ? b - 4 : 0;
            Checks.due("26: bout " + b, 15 + b, () -> m.tableBout(round, index));
            Checks.due("10: round of bout " + b, 100 + round, () -> m.bout(15 + b, 6));
        }
        for (int round : new int[] {LEAST, -2, 0, 1, 3, 6, 16, GREATEST}) {
            Checks.fails("26: round " + round, ELEMENT, () -> m.tableBout(round, 0));
        }
        Checks.fails("26: index below", ELEMENT, () -> m.tableBout(8, -1));
        Checks.fails("26: index above", ELEMENT, () -> m.tableBout(8, 4));
        Checks.fails("26: index of the final", ELEMENT, () -> m.tableBout(2, 1));

        int[] toGo = {2, 2, 3, 3, 3, 3};
        for (int i = 0; i < 6; i++) {
            int fencer = i;
            Checks.due("28: at first, " + i, toGo[i], () -> m.toGo(fencer));
        }
        Checks.fails("28: below", INDEX, () -> m.toGo(-1));
        m.enter(16, 3, 15, -1);
        Checks.fails("28: has lost", ELEMENT, () -> m.toGo(3));
        Checks.due("28: has won", 2, () -> m.toGo(4));
        Checks.due("24: the winner goes to the right side", 4, () -> m.bout(19, 1));
        m.begin(18);
        Checks.due("28: a bout in progress is to be won", 3, () -> m.toGo(2));
        m.card(1, 2);
        Checks.fails("28: excluded", ELEMENT, () -> m.toGo(5));
        Checks.due("25: the excluded one keeps the seed", 5, () -> m.seeded(6));
        m.enter(19, 15, 0, -1);
        Checks.due("28: in the final", 1, () -> m.toGo(0));

        int[] order = {1, 16, 8, 9, 4, 13, 5, 12, 2, 15, 7, 10, 3, 14, 6, 11};
        FencingMeet sixteen = withTable(16);
        for (int i = 0; i < 16; i++) {
            int position = i;
            int bout = sixteen.tableBout(16, i / 2);
            Checks.due("24: position " + i, order[i] - 1, () -> sixteen.bout(bout, position % 2));
        }
        FencingMeet most = withTable(24);
        Checks.due("24: 24 fencers", 32, () -> most.meet(5));
        Checks.due("24: most bouts", 307, () -> most.meet(3));
        Checks.due("24: eight byes", 8, () -> most.account(4));
        Checks.due("26: the last bout", 306, () -> most.tableBout(2, 0));
    }

    private static void finalPlaces() {
        FencingMeet m = withTable(6);
        m.enter(16, 3, 15, -1);
        m.enter(18, 15, 3, -1);
        m.enter(19, 15, 0, -1);
        m.enter(20, 14, 15, -1);
        Checks.fails("27: not over", STATE, () -> m.finalist(1));
        Checks.due("27: the final", 15, () -> m.begin(21));
        Checks.fails("27: the final is in progress", STATE, () -> m.finalist(1));
        m.touch(1);
        m.time();
        Checks.due("6: over", 3, () -> m.meet(0));
        int[] places = {2, 0, 1, 4, 3, 5};
        for (int i = 0; i < 6; i++) {
            int place = i + 1;
            Checks.due("27: place " + place, places[i], () -> m.finalist(place));
        }
        Checks.fails("27: below", ELEMENT, () -> m.finalist(0));
        Checks.fails("27: far below", ELEMENT, () -> m.finalist(LEAST));
        Checks.fails("27: above", ELEMENT, () -> m.finalist(7));
        Checks.due("28: the winner", 0, () -> m.toGo(2));
        Checks.fails("28: the second", ELEMENT, () -> m.toGo(0));
        Checks.due("22: the ranking is that of the pool", 2, () -> m.place(2));
        Checks.due("19: the table does not count", 5, () -> m.result(2, 1));
    }

    // ---- promises 29 to 31 ----

    private static void relays() {
        FencingMeet m = withTable(8);
        Checks.fails("31: none", ELEMENT, () -> m.relay(0));
        Checks.fails("31: none comes first", ELEMENT, () -> m.relay(7));
        Checks.fails("30: none", STATE, () -> m.leg(0, 0));
        Checks.fails("30: none comes first", STATE, () -> m.leg(-1, 0));
        Checks.fails("29: club below", ARGUMENT, () -> m.beginRelay(-1, 0));
        Checks.fails("29: club above", ARGUMENT, () -> m.beginRelay(0, 8));
        Checks.fails("29: the same", ARGUMENT, () -> m.beginRelay(1, 1));
        Checks.fails("29: first too small", STATE, () -> m.beginRelay(5, 0));
        Checks.fails("29: other too small", STATE, () -> m.beginRelay(0, 5));
        Checks.fails("29: phase 1", STATE, () -> fought(8).beginRelay(0, 1));
        Checks.fails("29: phase 0", STATE, () -> with().beginRelay(0, 1));
        Checks.fails("29: the argument comes first", ARGUMENT, () -> with().beginRelay(0, 0));

        // club 1 has 1 3 5 7, club 0 has 0 2 4 6: fencers 1 2 3 are 1 3 5, fencers 4 5 6 are 0 2 4
        Checks.due("29: fencer 3", 5, () -> m.beginRelay(1, 0));
        int[] first = {5, 1, 3, 1, 5, 3, 1, 3, 5};
        int[] other = {4, 2, 0, 4, 0, 2, 0, 4, 2};
        for (int k = 1; k <= 9; k++) {
            int leg = k;
            Checks.due("31: told before leg " + k, leg - 1, () -> m.relay(0));
            Checks.due("31: first of leg " + k, first[k - 1], () -> m.relay(4));
            Checks.due("31: other of leg " + k, other[k - 1], () -> m.relay(5));
            Checks.due("31: undecided " + k, -1, () -> m.relay(3));
            Checks.fails("30: too great for the first " + k, ARGUMENT, () -> m.leg(6, 0));
            Checks.fails("30: too great for the other " + k, ARGUMENT, () -> m.leg(0, 5 * leg + 1));
            Checks.fails("30: negative " + k, ARGUMENT, () -> m.leg(-1, 0));
            Checks.fails("30: other negative " + k, ARGUMENT, () -> m.leg(0, LEAST));
            Checks.fails("30: very great " + k, ARGUMENT, () -> m.leg(GREATEST, GREATEST));
            Checks.due("30: leg " + k, 9 - leg, () -> m.leg(5, leg == 9 ? 44 : 0));
            Checks.due("31: total " + k, 5 * leg, () -> m.relay(1));
        }
        Checks.due("31: legs", 9, () -> m.relay(0));
        Checks.due("31: other total", 44, () -> m.relay(2));
        Checks.due("31: the club that won", 1, () -> m.relay(3));
        Checks.due("31: nobody is next", -1, () -> m.relay(4));
        Checks.due("31: nobody is next in the other", -1, () -> m.relay(5));
        Checks.due("31: not drawn", 0, () -> m.relay(6));
        Checks.fails("31: below", ARGUMENT, () -> m.relay(-1));
        Checks.fails("31: above", ARGUMENT, () -> m.relay(7));
        Checks.fails("30: nine legs", STATE, () -> m.leg(0, 0));
        Checks.fails("30: nine legs come first", STATE, () -> m.leg(-1, 0));
        m.undo();
        Checks.due("31: undecided again", -1, () -> m.relay(3));
        m.leg(0, 45);
        Checks.due("31: the other club won", 0, () -> m.relay(3));

        Checks.due("29: in place of the one before", 4, () -> m.beginRelay(0, 1));
        Checks.due("31: begun anew", 0, () -> m.relay(0) + m.relay(1) + m.relay(2) + m.relay(6));
        Checks.due("30: the limit is that of each total", 8, () -> m.leg(5, 5));
        Checks.fails("30: the first one's", ARGUMENT, () -> m.leg(6, 5));
        Checks.fails("30: the other one's", ARGUMENT, () -> m.leg(5, 6));
        m.undo();
        Checks.due("31: undecided anew", -1, () -> m.relay(3));
        m.undo();
        Checks.due("31: the one before is back", 9, () -> m.relay(0));
        int[] seeds = {1, 2, 3, 4, 5, 6, 7, 8};
        for (int seed : seeds) {
            long z = (seed * 1103515245L + 12345L) % 2147483648L;
            int club = z / 65536 % 2 == 0 ? 1 : 0;
            m.setSeed(seed);
            m.beginRelay(1, 0);
            for (int leg = 1; leg <= 9; leg++) {
                m.leg(2, 2);
            }
            Checks.due("31: drawn from " + seed, club, () -> m.relay(3));
            Checks.due("31: was drawn", 1, () -> m.relay(6));
        }
        m.beginRelay(0, 1);
        Checks.due("31: the next one is not drawn", 0, () -> m.relay(6));

        // fencer 1 is the best of club 1; with a black card, 7 is the third of the club
        FencingMeet black = withTable(8);
        black.beginRelay(1, 0);
        black.begin(black.tableBout(8, 2));
        black.card(0, 2);
        Checks.due("29: who is in the relay stays", 5, () -> black.relay(4));
        Checks.due("29: excluded", 1, () -> black.fencer(1, 4));
        Checks.due("29: the third one now", 7, () -> black.beginRelay(1, 0));
        black.begin(black.tableBout(8, 3));
        black.card(1, 2);
        black.begin(black.tableBout(8, 1));
        black.card(0, 2);
        Checks.due("29: three are enough", 3, () -> {
            black.undo();
            black.undo();
            black.undo();
            return (int) java.util.stream.IntStream.range(0, 8)
                    .filter(f -> black.fencer(f, 0) == 1 && black.fencer(f, 4) == 0).count();
        });
        FencingMeet five = withTable(5);
        Checks.fails("29: two of the other club", STATE, () -> five.beginRelay(0, 1));
        Checks.due("29: in phase 3 too", 4, () -> {
            FencingMeet over = withTable(6);
            over.enter(16, 3, 15, -1);
            over.enter(18, 15, 3, -1);
            over.enter(19, 15, 0, -1);
            over.enter(20, 14, 15, -1);
            over.enter(21, 14, 15, -1);
            return over.beginRelay(0, 1);
        });
    }

    // ---- promises 32 to 38 ----

    private static void accounts() {
        FencingMeet m = onePool(4);
        Checks.fails("32: below", ARGUMENT, () -> m.account(-1));
        Checks.fails("32: above", ARGUMENT, () -> m.account(9));
        Checks.due("32: to come", 6, () -> m.account(0));
        m.enter(0, 5, 2, -1);
        m.enter(3, 4, 4, 1);
        m.begin(1);
        m.touch(0);
        m.card(0, 0);
        m.card(0, 0);
        int[] some = {3, 1, 2, 0, 0, 15, 0, 2, 2};
        for (int what = 0; what <= 8; what++) {
            int asked = what;
            Checks.due("32: account " + what, some[what], () -> m.account(asked));
        }
        m.card(0, 2);
        int[] annulled = {2, 0, 1, 3, 0, 8, 0, 3, 1};
        for (int what = 0; what <= 8; what++) {
            int asked = what;
            Checks.due("32: account with annulled bouts " + what, annulled[what], () -> m.account(asked));
        }
        FencingMeet table = withTable(3);
        table.enter(4, 15, 10, -1);
        int[] late = {1, 0, 4, 0, 1, 18 + 25, 0, 0, 3};
        for (int what = 0; what <= 8; what++) {
            int asked = what;
            Checks.due("32: account with the table " + what, late[what], () -> table.account(asked));
        }
    }

    private static void texts() {
        FencingMeet m = onePool(4);
        fault(m, "", 0);
        fault(m, "0", 1);
        fault(m, "0=5:1", 5);
        fault(m, "0=5:1l", 6);
        fault(m, ";", 0);
        fault(m, "=", 0);
        fault(m, "0:", 1);
        fault(m, "1234=", 3);
        fault(m, "0=;", 2);
        fault(m, "0=123:", 4);
        fault(m, "0=5:123;", 6);
        fault(m, "0=5;", 3);
        fault(m, "0=5:;", 4);
        fault(m, "0=5:l;", 4);
        fault(m, "0=5l:1;", 3);
        fault(m, "0=5:1lr;", 6);
        fault(m, "0=5:1l2;", 6);
        fault(m, "0=5:1L;", 5);
        fault(m, "0=5:1;;", 6);
        fault(m, "0=5:1; ", 6);
        fault(m, "0=5:1;1", 7);
        fault(m, "0=-1:1;", 2);
        fault(m, "0=5:1;1=5:1x", 11);
        fault(m, "\u06600=5:1;", 0);
        fault(m, "\uff10=5:1;", 0);
        fault(m, "/=5:1;", 0);
        fault(m, "0=5==", 3);
        Checks.due("34: nothing was entered", 6, () -> m.account(0));
        Checks.fails("34: nothing was refused", ELEMENT, m::refusal);

        type(m, "000=05:01;3=4:4r;");
        Checks.due("34: two results", 2, m::readResults);
        Checks.due("35: no fault", -1, m::faultPosition);
        Checks.due("34: left side", 5, () -> m.bout(0, 2));
        Checks.due("34: right side", 1, () -> m.bout(0, 3));
        Checks.due("34: winner of the first", 0, () -> m.bout(0, 5));
        Checks.due("34: winner of the second", 2, () -> m.bout(3, 5));
        Checks.fails("34: the buffer is empty", ARGUMENT, m::readResults);
        Checks.due("35: of an empty text", 0, m::faultPosition);
        Checks.due("34: each is a change, behind the five of the pool", 6, m::undo);
        Checks.due("34: undone", 0, () -> m.bout(3, 4));

        type(m, "1=2:2l;2=5:5l;3=5:0;");
        Checks.due("34: until one is refused", 1, m::readResults);
        Checks.due("18: its reason", 5, m::refusal);
        Checks.due("34: the left side wins", 0, () -> m.bout(1, 5));
        Checks.due("34: none behind it", 0, () -> m.bout(3, 4));
        type(m, "2=5:0;9=5:5l;3=5:0;");
        Checks.due("34: until one does not exist", 1, m::readResults);
        Checks.due("18: that is no reason", 5, m::refusal);
        Checks.due("34: none behind that", 0, () -> m.bout(3, 4));
        type(m, "3=2:2;");
        Checks.due("34: equal without a winner", 0, m::readResults);
        Checks.due("18: reason 6", 6, m::refusal);
        type(m, "3=2:1l;");
        Checks.due("34: a winner too many", 0, m::readResults);
        type(m, "3=99:1;");
        Checks.due("34: too many touches", 0, m::readResults);
        Checks.due("18: reason 4", 4, m::refusal);
        Checks.due("35: a refusal is no fault", -1, m::faultPosition);

        FencingMeet many = onePool(5);
        type(many, "0=1:0;1=1:0;2=1:0;3=1:0;4=1:0;5=1:0;6=1:0;7=1:0;8=1:0;9=1:0;");
        Checks.fails("33: the 61st", STATE, () -> many.append('0'));
        Checks.due("34: ten results", 10, many::readResults);
        Checks.due("36: eight changes are kept", 7, many::undo);
        many.append('\u1234');
        Checks.fails("33: any character", ARGUMENT, many::readResults);
        Checks.due("35: its fault", 0, many::faultPosition);
        for (int i = 0; i < 60; i++) {
            many.append(' ');
        }
        Checks.fails("33: full", STATE, () -> many.append(';'));
        Checks.fails("34: sixty spaces", ARGUMENT, many::readResults);
        Checks.due("35: at the first one", 0, many::faultPosition);
        many.append('7');
        Checks.fails("34: emptied before", ARGUMENT, many::readResults);
        Checks.due("35: one digit", 1, many::faultPosition);

        FencingMeet big = withTable(24);
        type(big, "277=15:14;");
        Checks.due("34: three digits and two", 1, big::readResults);
        Checks.due("34: their touches", 29, () -> big.bout(277, 2) + big.bout(277, 3));
        type(big, "278=01:0;");
        big.save();
        big.undo();
        Checks.due("34: undo leaves the buffer", 0, big::readResults);
        Checks.due("18: a bye is not to come", 1, big::refusal);
        type(big, "999=1:0;");
        Checks.due("34: no such bout", 0, big::readResults);
    }

    private static void fault(FencingMeet m, String text, int position) {
        type(m, text);
        Checks.fails("34: '" + text + "'", ARGUMENT, m::readResults);
        Checks.due("35: '" + text + "'", position, m::faultPosition);
    }

    private static void changes() {
        FencingMeet m = new FencingMeet();
        for (int i = 0; i < 9; i++) {
            m.addFencer(0, 9 - i);
        }
        for (int left = 7; left >= 0; left--) {
            int want = left;
            Checks.due("36: left " + left, want, m::undo);
        }
        Checks.fails("36: the ninth", STATE, m::undo);
        Checks.due("36: one fencer is left", 1, () -> m.meet(1));
        m.addFencer(1, 5);
        m.addFencer(2, 6);
        Checks.due("36: entered anew", 1, () -> m.fencer(1, 0));
        m.drawPools(1);
        m.undo();
        Checks.due("36: phase 0 again", 0, () -> m.meet(0) + m.meet(2) + m.meet(3));
        Checks.due("36: no pool again", -1, () -> m.fencer(0, 2));
        m.drawPools(1);
        m.begin(0);
        m.card(0, 0);
        m.undo();
        Checks.due("36: no card again", 0, () -> m.fencer(1, 5));
        Checks.due("36: the card is the first one again", 0, () -> m.card(0, 0));
        m.time();
        int drawn = m.bout(0, 8);
        m.undo();
        Checks.due("36: no priority again", -1, () -> m.bout(0, 8));
        m.time();
        Checks.due("36: the seed is kept", drawn, () -> m.bout(0, 8));
        m.time();
        m.enter(1, 5, 0, -1);
        m.enter(2, 5, 0, -1);
        m.drawTable();
        m.undo();
        Checks.due("36: no table again", 0, () -> m.meet(5));
        Checks.due("36: phase 1 again", 1, () -> m.meet(0));
        Checks.due("36: bouts of the pool alone", 3, () -> m.meet(3));
        Checks.fails("36: no bout of the table", INDEX, () -> m.bout(3, 0));
        m.drawTable();
        Checks.fails("38: nothing saved", STATE, m::restore);
        Checks.due("38: that forgets nothing", 7, m::undo);

        FencingMeet s = withTable(8);
        s.setSeed(11);
        s.beginRelay(0, 1);
        s.leg(1, 2);
        s.save();
        Checks.due("37: is no change", 1, s::undo);
        s.undo();
        s.beginRelay(1, 0);
        s.enter(28, 15, 0, -1);
        s.begin(29);
        s.card(0, 2);
        s.setSeed(12);
        s.enter(30, 1, 0, -1);
        s.restore();
        Checks.fails("38: forgets the changes", STATE, s::undo);
        Checks.due("38: the seed", 11, () -> s.setSeed(11));
        Checks.due("38: the relay", 1, () -> s.relay(0));
        Checks.due("38: its total", 2, () -> s.relay(2));
        Checks.due("38: the bouts", 0, () -> s.bout(28, 4) + s.bout(29, 4) + s.bout(30, 4));
        Checks.due("38: the fencers", 8, () -> s.meet(4));
        Checks.due("38: the next round", -1, () -> s.bout(32, 0));
        s.enter(28, 15, 0, -1);
        s.restore();
        Checks.due("38: the snapshot is kept", 0, () -> s.bout(28, 4));
        s.enter(28, 15, 0, -1);
        s.save();
        s.undo();
        s.restore();
        Checks.due("37: in place of the earlier one", 2, () -> s.bout(28, 4));
        Checks.due("37: with who advanced", 0, () -> s.bout(32, 0));

        restoreAnother();
        restoreOtherWay();

        FencingMeet kept = onePool(3);
        kept.save();
        Checks.fails("18: refused", UNSUPPORTED, () -> kept.enter(0, 5, 5, 0));
        type(kept, "0=1:");
        kept.restore();
        type(kept, "0;");
        Checks.due("38: the buffer does not belong to it", 1, kept::readResults);
        Checks.due("38: nor does the reason", 5, kept::refusal);
        type(kept, "x");
        Checks.fails("34: fault", ARGUMENT, kept::readResults);
        kept.restore();
        Checks.due("38: nor does the fault position", 0, kept::faultPosition);
        kept.begin(0);
        kept.restore();
        Checks.fails("38: no bout is in progress", ELEMENT, kept::current);
    }

    /** What is restored comes back whole, though another meet with other fencers, pools and relays stood between. */
    private static void restoreAnother() {
        FencingMeet m = new FencingMeet();
        m.save();
        for (int i = 0; i < 8; i++) {
            m.addFencer(i / 4, i + 1);
        }
        int bouts = m.drawPools(2);
        for (int bout = 0; bout < bouts; bout++) {
            m.enter(bout, 2, 3, -1);
        }
        m.drawTable();
        m.beginRelay(0, 1);
        for (int leg = 0; leg < 9; leg++) {
            m.leg(1, 1);
        }
        for (int index = 0; index < 4; index++) {
            m.begin(m.tableBout(8, index));
            for (int kind = 0; kind < 3; kind++) {
                m.card(1 - index % 2, Math.min(kind, 1));
                m.card(index % 2, kind);
            }
        }
        Checks.due("16: four are excluded", 4, () -> m.meet(4));
        String first = allAnswers(m);
        m.restore();
        Checks.due("38: nothing but the new meet", allAnswers(new FencingMeet()), () -> allAnswers(m));
        for (int i = 0; i < 12; i++) {
            m.addFencer(3 - i / 4, 20 - i);
        }
        Checks.due("38: entered without what was before", 0, () -> java.util.stream.IntStream.range(0, 12)
                .map(f -> m.fencer(f, 4) + m.fencer(f, 5) + m.fencer(f, 6) + m.fencer(f, 7)).sum());
        bouts = m.drawPools(1);
        m.begin(0);
        m.card(0, 0);
        m.card(0, 1);
        m.card(0, 2);
        m.begin(bouts - 1);
        m.card(1, 0);
        m.card(1, 0);
        m.card(1, 2);
        for (int bout = 0; bout < bouts; bout++) {
            if (m.bout(bout, 4) == 0) {
                m.enter(bout, 4, 1, -1);
            }
        }
        m.drawTable();
        m.save();
        String second = allAnswers(m);
        m.enter(m.tableBout(16, 1), 15, 7, -1);
        m.beginRelay(2, 3);
        Checks.isTrue("38: it has changed", !second.equals(allAnswers(m)));
        m.undo();
        m.undo();
        Checks.due("36: undone whole", second, () -> allAnswers(m));
        Checks.isTrue("38: these are two meets", !first.equals(second));
        m.enter(m.tableBout(16, 1), 15, 7, -1);
        m.restore();
        Checks.due("38: restored whole", second, () -> allAnswers(m));
    }

    /** What is restored comes back whole, though changes were undone and others made in their place. */
    private static void restoreOtherWay() {
        FencingMeet m = with(1, 10, 1, 20, 1, 30);
        m.save();
        String first = allAnswers(m);
        for (int i = 0; i < 3; i++) {
            m.undo();
        }
        for (int i = 0; i < 5; i++) {
            m.addFencer(2, 30 - i);
        }
        m.restore();
        Checks.due("38: the fencers of before", first, () -> allAnswers(m));

        for (int i = 0; i < 3; i++) {
            m.addFencer(3, 40 - i);
        }
        m.drawPools(2);
        m.save();
        String second = allAnswers(m);
        for (int i = 0; i < 4; i++) {
            m.undo();
        }
        for (int i = 0; i < 5; i++) {
            m.addFencer(4, i + 1);
        }
        m.drawPools(2);
        m.restore();
        Checks.due("38: the pools of before", second, () -> allAnswers(m));

        for (int bout = 0; bout < 6; bout++) {
            m.enter(bout, 5, bout % 3, -1);
        }
        m.drawTable();
        m.save();
        String third = allAnswers(m);
        for (int i = 0; i < 7; i++) {
            m.undo();
        }
        for (int bout = 0; bout < 6; bout++) {
            m.enter(bout, bout % 3, 4, -1);
        }
        m.drawTable();
        m.restore();
        Checks.due("38: the table of before", third, () -> allAnswers(m));
    }

    private static String allAnswers(FencingMeet m) {
        StringBuilder text = new StringBuilder();
        for (int a = 0; a < 32; a++) {
            for (int b = 0; b < 24; b++) {
                int i = a;
                int j = b;
                text.append(Checks.answerOf(() -> m.fencer(i, j))).append(Checks.answerOf(() -> m.member(i, j)));
                text.append(Checks.answerOf(() -> m.bout(2 * i, j))).append(Checks.answerOf(() -> m.bout(2 * i + 1, j)));
                text.append(Checks.answerOf(() -> m.poolBout(i, j))).append(Checks.answerOf(() -> m.why(i, j)));
                text.append(Checks.answerOf(() -> m.tableBout(i, j))).append(Checks.answerOf(() -> m.result(i, j)));
            }
            int i = a;
            text.append(Checks.answerOf(() -> m.meet(i))).append(Checks.answerOf(() -> m.account(i)));
            text.append(Checks.answerOf(() -> m.members(i))).append(Checks.answerOf(() -> m.relay(i)));
            text.append(Checks.answerOf(() -> m.seeded(i))).append(Checks.answerOf(() -> m.toGo(i)));
            text.append(Checks.answerOf(() -> m.finalist(i))).append(Checks.answerOf(() -> m.ranked(i)));
        }
        return text.append(Checks.answerOf(m::clubPairs)).append(Checks.answerOf(m::current)).toString();
    }
}
