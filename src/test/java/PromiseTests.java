import java.util.function.Consumer;
import java.util.function.Supplier;

/** For each promise: ordinary calls, the edges that it names, and wrong inputs, with the answers that are due. */
public final class PromiseTests {
    private PromiseTests() {
    }

    public static void main(String[] args) {
        entries();
        pools();
        seeds();
        bouts();
        touches();
        timeAndPriority();
        cards();
        enteredResults();
        ranking();
        table();
        finalPlaces();
        relays();
        accounts();
        texts();
        changes();
        noNumbers();
        Checks.end("PromiseTests");
    }

    // ---- promises 1 to 9 ----

    private static void entries() {
        FencingMeet m = new FencingMeet();
        for (int what = 0; what <= 5; what++) {
            int asked = what;
            Checks.due("1: meet of a new one " + what, 0, () -> m.meet(asked));
        }
        Checks.due("1: the first seed", 1, () -> m.setSeed(1));
        Checks.due("1: no fault", -1, m::faultPosition);
        Checks.fails("1: nothing to undo", Checks.STATE, m::undo);
        Checks.fails("1: nothing saved", Checks.STATE, m::restore);
        Checks.fails("1: nothing refused", Checks.ELEMENT, m::refusal);

        Checks.fails("2: club below", Checks.ARGUMENT, () -> m.addFencer(-1, 1));
        Checks.fails("2: club above", Checks.ARGUMENT, () -> m.addFencer(8, 1));
        Checks.fails("2: strength below", Checks.ARGUMENT, () -> m.addFencer(0, 0));
        Checks.fails("2: strength above", Checks.ARGUMENT, () -> m.addFencer(0, 1000));
        Checks.fails("2: far off", Checks.ARGUMENT, () -> m.addFencer(Checks.LEAST, Checks.GREATEST));
        Checks.due("2: none of these entered", 0, () -> m.meet(1));
        Checks.due("2: first", 0, () -> m.addFencer(7, 999));
        Checks.due("2: second", 1, () -> m.addFencer(0, 1));
        for (int i = 2; i < 24; i++) {
            int number = i;
            Checks.due("2: number " + i, number, () -> m.addFencer(3, 5));
        }
        Checks.fails("2: the 25th", Checks.STATE, () -> m.addFencer(3, 5));
        Checks.fails("2: the argument comes first", Checks.ARGUMENT, () -> m.addFencer(3, 0));
        Checks.due("2: 24 are entered", 24, () -> m.meet(1));
        Checks.fails("2: in phase 1", Checks.STATE, () -> Meets.onePool(3).addFencer(0, 1));

        FencingMeet two = Meets.with(7, 999, 0, 1, 2, 3);
        int[] entered = {7, 999, -1, -1, 0, 0, 0, 0};
        for (int what = 0; what <= 7; what++) {
            int asked = what;
            Checks.due("5: entered " + what, entered[what], () -> two.fencer(0, asked));
        }
        Checks.fails("5: fencer below", Checks.INDEX, () -> two.fencer(-1, 0));
        Checks.fails("5: fencer above", Checks.INDEX, () -> two.fencer(3, 0));
        Checks.fails("5: fencer first", Checks.INDEX, () -> two.fencer(3, 8));
        Checks.fails("5: what below", Checks.ARGUMENT, () -> two.fencer(0, -1));
        Checks.fails("5: what above", Checks.ARGUMENT, () -> two.fencer(0, 8));
        two.drawPools(1);
        Checks.due("5: pool", 0, () -> two.fencer(0, 2));
        Checks.due("5: the weakest is the last member", 2, () -> two.fencer(0, 3));
        Checks.due("5: the strongest is the first member", 0, () -> two.fencer(1, 3));

        Checks.fails("6: below", Checks.ARGUMENT, () -> two.meet(-1));
        Checks.fails("6: above", Checks.ARGUMENT, () -> two.meet(6));
        Checks.due("6: phase", 1, () -> two.meet(0));
        Checks.due("6: fencers", 3, () -> two.meet(1));
        Checks.due("6: pools", 1, () -> two.meet(2));
        Checks.due("6: bouts", 3, () -> two.meet(3));
        Checks.due("6: in", 3, () -> two.meet(4));
        Checks.due("6: no table", 0, () -> two.meet(5));
        two.begin(0);
        two.card(1, 2);
        Checks.due("6: all fencers", 3, () -> two.meet(1));
        Checks.due("6: in after a black card", 2, () -> two.meet(4));
        Checks.due("6: table size", 8, () -> Meets.withTable(5).meet(5));
        Checks.due("6: bouts with those of the table", 10 + 7, () -> Meets.withTable(5).meet(3));
        Checks.due("6: phase of the table", 2, () -> Meets.withTable(5).meet(0));
    }

    private static void pools() {
        Checks.fails("3: below", Checks.ARGUMENT, () -> Meets.with().drawPools(0));
        Checks.fails("3: above", Checks.ARGUMENT, () -> Meets.with().drawPools(7));
        Checks.fails("3: far off", Checks.ARGUMENT, () -> Meets.with().drawPools(Checks.GREATEST));
        Checks.fails("3: two fencers", Checks.STATE, () -> Meets.with(0, 1, 0, 2).drawPools(1));
        Checks.fails("3: a pool of two", Checks.STATE, () -> Meets.with(0, 1, 0, 2, 0, 3, 0, 4, 0, 5).drawPools(2));
        Checks.fails("3: the argument comes first", Checks.ARGUMENT, () -> Meets.onePool(3).drawPools(7));
        Checks.fails("3: drawn already", Checks.STATE, () -> Meets.onePool(3).drawPools(1));
        Checks.due("3: one pool of 24", 276, () -> Meets.onePool(24).meet(3));
        FencingMeet six = Meets.with(0, 1, 0, 2, 0, 3, 0, 4, 0, 5, 0, 6, 0, 7, 0, 8, 0, 9, 0, 10, 0, 11, 0, 12, 0, 13,
                0, 14, 0, 15, 0, 16, 0, 17);
        Checks.fails("3: six pools of 17", Checks.STATE, () -> six.drawPools(6));
        six.addFencer(0, 18);
        Checks.due("3: six pools of 18", 18, () -> six.drawPools(6));
        Checks.due("7: members of the last one", 3, () -> six.members(5));

        // rows by strength: 4 1 2 / 0 5 3 / 6 7 8; the second row goes from the last pool on
        FencingMeet m = Meets.with(0, 5, 0, 3, 1, 3, 2, 9, 1, 1, 0, 7, 1, 20, 3, 30, 3, 40);
        Checks.due("3: three pools of three", 9, () -> m.drawPools(3));
        // row 1: 0 goes to the last pool without its club 0, 5 to pool 0, as pool 1 has that club, and 3 to the last
        int[][] members = {{4, 5, 7}, {1, 3, 6}, {2, 0, 8}};
        for (int pool = 0; pool < 3; pool++) {
            int p = pool;
            Checks.due("7: members of " + p, 3, () -> m.members(p));
            for (int index = 0; index < 3; index++) {
                int i = index;
                int want = members[pool][index];
                Checks.due("8: member " + p + " " + i, want, () -> m.member(p, i));
                Checks.due("5: pool of " + want, p, () -> m.fencer(want, 2));
                Checks.due("5: number of " + want, i, () -> m.fencer(want, 3));
            }
        }
        Checks.fails("7: below", Checks.INDEX, () -> m.members(-1));
        Checks.fails("7: above", Checks.INDEX, () -> m.members(3));
        Checks.fails("7: phase 0", Checks.INDEX, () -> Meets.with(0, 1).members(0));
        Checks.fails("8: pool below", Checks.INDEX, () -> m.member(-1, 0));
        Checks.fails("8: pool above", Checks.INDEX, () -> m.member(3, 9));
        Checks.fails("8: member below", Checks.ELEMENT, () -> m.member(0, -1));
        Checks.fails("8: member above", Checks.ELEMENT, () -> m.member(0, 3));
        Checks.due("9: no pair", 0, m::clubPairs);

        FencingMeet snake = Meets.with(0, 1, 1, 2, 2, 3, 3, 4, 4, 5, 5, 6, 6, 7);
        Checks.due("3: pools of four and three", 6 + 3, () -> snake.drawPools(2));
        Checks.due("3: row 0 ascends", 0, () -> snake.member(0, 0));
        Checks.due("3: row 0 ascends, then", 1, () -> snake.member(1, 0));
        Checks.due("3: row 1 descends", 2, () -> snake.member(1, 1));
        Checks.due("3: row 1 descends, then", 3, () -> snake.member(0, 1));
        Checks.due("3: row 2 ascends", 4, () -> snake.member(0, 2));
        Checks.due("3: the last row is smaller, and descends", 6, () -> snake.member(1, 3));
        Checks.due("7: the smaller pool", 3, () -> snake.members(0));
        Checks.due("7: the larger pool", 4, () -> snake.members(1));

        Checks.due("9: phase 0", 0, () -> Meets.with(0, 1, 0, 2, 0, 3).clubPairs());
        Checks.due("9: all of one club", 6, () -> Meets.onePool(4).clubPairs());
        FencingMeet pairs = Meets.with(0, 1, 0, 2, 0, 3, 1, 4, 1, 5, 1, 6);
        pairs.drawPools(2);
        Checks.due("9: two pools", 2, pairs::clubPairs);
        pairs.begin(0);
        pairs.card(0, 2);
        Checks.due("9: members stay", 2, pairs::clubPairs);
    }

    private static void seeds() {
        FencingMeet m = new FencingMeet();
        Checks.due("4: the first one", 1, () -> m.setSeed(7));
        Checks.due("4: the one before", 7, () -> m.setSeed(Checks.GREATEST));
        Checks.due("4: the greatest", Checks.GREATEST, () -> m.setSeed(0));
        Checks.fails("4: negative", Checks.ARGUMENT, () -> m.setSeed(-1));
        Checks.fails("4: most negative", Checks.ARGUMENT, () -> m.setSeed(Checks.LEAST));
        Checks.due("4: unchanged", 0, () -> m.setSeed(0));
        m.addFencer(0, 1);
        Checks.fails("4: a negative one forgets nothing", Checks.ARGUMENT, () -> m.setSeed(-5));
        Checks.due("4: so that undo goes on", 0, m::undo);
        m.addFencer(0, 1);
        Checks.due("4: the same", 0, () -> m.setSeed(0));
        Checks.fails("4: forgets the changes", Checks.STATE, m::undo);
    }

    // ---- promises 10 to 18 ----

    private static void bouts() {
        FencingMeet m = Meets.onePool(4);
        int[][] pairs = {{0, 1}, {0, 2}, {0, 3}, {1, 2}, {1, 3}, {2, 3}};
        for (int bout = 0; bout < 6; bout++) {
            int[] pair = pairs[bout];
            int b = bout;
            Checks.due("10: left of " + b, pair[0], () -> m.bout(b, 0));
            Checks.due("10: right of " + b, pair[1], () -> m.bout(b, 1));
            Checks.due("12: bout of " + b, b, () -> m.poolBout(pair[0], pair[1]));
            Checks.due("12: bout of " + b + " turned round", b, () -> m.poolBout(pair[1], pair[0]));
        }
        int[] fresh = {0, 1, 0, 0, 0, -1, 0, 5, -1};
        for (int what = 0; what <= 8; what++) {
            int asked = what;
            Checks.due("10: to come " + what, fresh[what], () -> m.bout(0, asked));
        }
        Checks.fails("10: bout below", Checks.INDEX, () -> m.bout(-1, 0));
        Checks.fails("10: bout above", Checks.INDEX, () -> m.bout(6, 9));
        Checks.fails("10: what below", Checks.ARGUMENT, () -> m.bout(0, -1));
        Checks.fails("10: what above", Checks.ARGUMENT, () -> m.bout(0, 9));

        FencingMeet two = Meets.with(0, 1, 1, 2, 2, 3, 3, 4, 4, 5, 5, 6);
        two.drawPools(2);
        Checks.due("10: pool of the last bout", 1, () -> two.bout(5, 6));
        Checks.due("10: pool of the third bout", 0, () -> two.bout(2, 6));
        Checks.fails("12: not in the same pool", Checks.ELEMENT, () -> two.poolBout(0, 1));
        Checks.fails("12: the same", Checks.ELEMENT, () -> two.poolBout(2, 2));
        Checks.fails("12: one below", Checks.INDEX, () -> two.poolBout(-1, 0));
        Checks.fails("12: other above", Checks.INDEX, () -> two.poolBout(0, 6));
        Checks.fails("12: the index comes first", Checks.INDEX, () -> two.poolBout(6, 6));
        Checks.fails("12: phase 0", Checks.ELEMENT, () -> Meets.with(0, 1, 0, 2).poolBout(0, 1));
        FencingMeet late = Meets.withTable(4);
        Checks.due("12: not the bout of the table", 2, () -> late.poolBout(0, 3));

        Checks.fails("11: none", Checks.ELEMENT, m::current);
        Checks.due("13: target", 5, () -> m.begin(3));
        Checks.due("11: in progress", 3, m::current);
        Checks.due("13: state", 1, () -> m.bout(3, 4));
        Checks.fails("13: one is in progress", Checks.UNSUPPORTED, () -> m.begin(0));
        Checks.fails("13: below", Checks.INDEX, () -> m.begin(-1));
        Checks.fails("13: above", Checks.INDEX, () -> m.begin(6));
        m.touch(0);
        m.time();
        Checks.fails("11: over", Checks.ELEMENT, m::current);
        Checks.fails("13: not to come", Checks.UNSUPPORTED, () -> m.begin(3));
        Checks.due("13: another", 5, () -> m.begin(5));

        FencingMeet table = Meets.withTable(3);
        Checks.due("13: table", 15, () -> table.begin(4));
        table.undo();
        Checks.fails("13: a bye", Checks.UNSUPPORTED, () -> table.begin(3));
        Checks.fails("13: one not known", Checks.UNSUPPORTED, () -> table.begin(5));
        int[] bye = {0, -1, 0, 0, 4, 0, 104, 15, -1};
        int[] semi = {1, 2, 0, 0, 0, -1, 104, 15, -1};
        int[] last = {0, -1, 0, 0, 0, -1, 102, 15, -1};
        for (int what = 0; what <= 8; what++) {
            int asked = what;
            Checks.due("10: bye " + what, bye[what], () -> table.bout(3, asked));
            Checks.due("10: semifinal " + what, semi[what], () -> table.bout(4, asked));
            Checks.due("10: final " + what, last[what], () -> table.bout(5, asked));
        }
    }

    private static void touches() {
        FencingMeet m = Meets.onePool(3);
        Checks.fails("14: none in progress", Checks.STATE, () -> m.touch(0));
        Checks.fails("14: the argument comes first", Checks.ARGUMENT, () -> m.touch(3));
        m.begin(1);
        Checks.fails("14: below", Checks.ARGUMENT, () -> m.touch(-1));
        Checks.fails("14: above", Checks.ARGUMENT, () -> m.touch(3));
        Checks.due("14: left", 1, () -> m.touch(0));
        Checks.due("14: right", 1, () -> m.touch(1));
        Checks.due("14: both", 1, () -> m.touch(2));
        Checks.due("14: both again", 1, () -> m.touch(2));
        Checks.due("10: touches of the left", 3, () -> m.bout(1, 2));
        m.touch(1);
        Checks.due("10: touches of the right", 4, () -> m.bout(1, 3));
        Checks.due("14: a double touch that does not count", 1, () -> m.touch(2));
        Checks.due("14: left as it was", 3, () -> m.bout(1, 2));
        Checks.due("14: right as it was", 4, () -> m.bout(1, 3));
        Checks.due("14: is a change all the same", 7, m::undo);
        Checks.due("14: and nothing else was one", 4, () -> m.bout(1, 3));
        Checks.due("14: the target", 2, () -> m.touch(1));
        Checks.due("14: the winner", 2, () -> m.bout(1, 5));
        Checks.due("14: the left side's touches", 3, () -> m.bout(1, 2));
        Checks.fails("14: over", Checks.STATE, () -> m.touch(0));
        m.begin(0);
        for (int i = 0; i < 4; i++) {
            m.touch(0);
        }
        m.touch(2);
        Checks.due("14: 1 less than the target on the left", 0, () -> m.bout(0, 3));
        m.undo();
        m.undo();
        m.touch(2);
        Checks.due("14: 2 less than the target on the left", 1, () -> m.bout(0, 3));
        m.undo();
        m.touch(0);
        Checks.due("14: the left side wins", 2, () -> m.touch(0));
        Checks.due("14: the left side has won", 0, () -> m.bout(0, 5));

        FencingMeet table = Meets.withTable(2 + 1);
        table.begin(4);
        for (int i = 0; i < 14; i++) {
            Checks.due("14: below the target of the table", 1, () -> table.touch(1));
        }
        table.touch(2);
        Checks.due("14: double at 14", 0, () -> table.bout(4, 2));
        Checks.due("14: 15", 2, () -> table.touch(1));
        Checks.due("14: advances", 2, () -> table.bout(5, 1));
    }

    private static void timeAndPriority() {
        FencingMeet m = Meets.onePool(3);
        Checks.fails("15: none in progress", Checks.STATE, m::time);
        m.begin(0);
        m.touch(1);
        Checks.due("15: more touches on the right", 2, m::time);
        Checks.due("15: right wins", 1, () -> m.bout(0, 5));
        Checks.due("15: without priority", -1, () -> m.bout(0, 8));
        m.undo();
        m.touch(0);
        m.touch(0);
        m.time();
        Checks.due("15: left wins", 0, () -> m.bout(0, 5));

        // 1 * 1103515245 + 12345 is 1103527590; divided by 65536 it is 16838, which is even
        m.setSeed(1);
        m.begin(1);
        m.touch(2);
        Checks.due("15: equal", 1, m::time);
        Checks.due("15: the left side is drawn", 0, () -> m.bout(1, 8));
        Checks.due("15: a double touch does not count", 1, () -> m.touch(2));
        Checks.due("15: so the touches stay", 1, () -> m.bout(1, 2));
        Checks.due("15: time again", 2, m::time);
        Checks.due("15: the priority wins", 0, () -> m.bout(1, 5));
        Checks.due("15: and stays", 0, () -> m.bout(1, 8));
        m.undo();
        Checks.due("15: a touch of the other side", 2, () -> m.touch(1));
        Checks.due("15: wins", 2, () -> m.bout(1, 5));
        Checks.due("15: and counts", 2, () -> m.bout(1, 3));
        m.undo();
        Checks.due("15: a red card for the left side", 1, () -> m.card(0, 1));
        Checks.due("15: is a touch that wins", 2, () -> m.bout(1, 5));

        // what is drawn is kept for the next time: 1103527590 becomes 377401575, then 5758
        m.begin(2);
        m.time();
        Checks.due("15: the second number", 0, () -> m.bout(2, 8));
        m.time();
        int[] sides = new int[12];
        long z = 5;
        for (int i = 0; i < sides.length; i++) {
            z = (z * 1103515245L + 12345L) % 2147483648L;
            sides[i] = (int) (z / 65536 % 2);
        }
        FencingMeet many = Meets.onePool(6);
        many.setSeed(5);
        for (int bout = 0; bout < sides.length; bout++) {
            int b = bout;
            many.begin(b);
            many.time();
            Checks.due("15: drawn " + b, sides[b], () -> many.bout(b, 8));
            many.time();
        }
        FencingMeet greatest = Meets.onePool(3);
        greatest.setSeed(Checks.GREATEST);
        greatest.begin(0);
        greatest.time();
        long next = (Checks.GREATEST * 1103515245L + 12345L) % 2147483648L;
        Checks.due("15: from the greatest seed", (int) (next / 65536 % 2), () -> greatest.bout(0, 8));
    }

    private static void cards() {
        FencingMeet m = Meets.onePool(4);
        Checks.fails("16: none in progress", Checks.STATE, () -> m.card(0, 0));
        Checks.fails("16: side below", Checks.ARGUMENT, () -> m.card(-1, 0));
        Checks.fails("16: side above", Checks.ARGUMENT, () -> m.card(2, 0));
        Checks.fails("16: kind below", Checks.ARGUMENT, () -> m.card(0, -1));
        Checks.fails("16: kind above", Checks.ARGUMENT, () -> m.card(0, 3));
        m.begin(0);
        Checks.due("16: yellow", 0, () -> m.card(0, 0));
        Checks.due("16: gives no touch", 0, () -> m.bout(0, 3));
        Checks.due("16: yellow for the other", 0, () -> m.card(1, 0));
        Checks.due("16: a second yellow", 1, () -> m.card(0, 0));
        Checks.due("16: gives a touch", 1, () -> m.bout(0, 3));
        Checks.due("5: yellow cards", 1, () -> m.fencer(0, 5));
        Checks.due("5: red cards", 1, () -> m.fencer(0, 6));
        Checks.due("5: yellow cards of the other", 1, () -> m.fencer(1, 5));
        Checks.due("16: red for the right side", 1, () -> m.card(1, 1));
        Checks.due("16: gives the left side a touch", 1, () -> m.bout(0, 2));
        m.undo();
        m.touch(0);
        m.time();
        m.undo();
        m.touch(0);
        m.time();
        m.begin(1);
        Checks.due("16: red at once", 1, () -> m.card(0, 1));
        Checks.due("16: yellow behind red", 1, () -> m.card(0, 0));
        Checks.due("5: still one yellow", 1, () -> m.fencer(0, 5));
        Checks.due("5: three red", 3, () -> m.fencer(0, 6));
        m.card(0, 1);
        m.card(0, 1);
        Checks.due("16: goes on", 1, () -> m.bout(1, 4));
        Checks.due("16: the fifth", 1, () -> m.card(0, 1));
        Checks.due("16: can finish the bout", 2, () -> m.bout(1, 4));
        Checks.due("16: the other side wins", 2, () -> m.bout(1, 5));
        m.begin(2);
        Checks.due("16: another bout begins anew", 0, () -> m.card(0, 0));
        m.time();
        Checks.due("16: black", 2, () -> m.card(1, 2));
        Checks.due("5: black cards", 1, () -> m.fencer(3, 7));
        Checks.due("5: excluded", 1, () -> m.fencer(3, 4));
        Checks.due("5: not excluded", 0, () -> m.fencer(0, 4));
        Checks.fails("16: over", Checks.ELEMENT, m::current);
        for (int bout : new int[] {2, 4, 5}) {
            int b = bout;
            Checks.due("16: annulled " + b, 3, () -> m.bout(b, 4));
            Checks.due("16: no winner " + b, -1, () -> m.bout(b, 5));
            Checks.due("16: no priority " + b, -1, () -> m.bout(b, 8));
            Checks.due("16: right side stays " + b, 3, () -> m.bout(b, 1));
        }
        Checks.due("16: others stand", 2, () -> m.bout(1, 4));
        Checks.due("16: others are to come", 0, () -> m.bout(3, 4));
        m.begin(3);
        Checks.due("16: left black", 2, () -> m.card(0, 2));
        Checks.due("16: finished ones are annulled too", 3, () -> m.bout(0, 4));
        Checks.due("16: without touches", 0, () -> m.bout(0, 2) + m.bout(0, 3));
        Checks.due("16: without a winner", -1, () -> m.bout(0, 5));

        FencingMeet table = Meets.withTable(4);
        table.begin(6);
        table.touch(0);
        table.touch(0);
        table.touch(1);
        Checks.due("16: black in the table", 2, () -> table.card(0, 2));
        Checks.due("16: finished", 2, () -> table.bout(6, 4));
        Checks.due("16: touches as they are", 2, () -> table.bout(6, 2));
        Checks.due("16: touches of the other", 1, () -> table.bout(6, 3));
        Checks.due("16: the other side wins the bout", 3, () -> table.bout(6, 5));
        Checks.due("16: and advances", 3, () -> table.bout(8, 0));
        Checks.due("16: bouts of the pool stand", 2, () -> table.bout(0, 4));
        FencingMeet last = Meets.onePool(24);
        last.begin(275);
        for (int kind = 0; kind < 3; kind++) {
            last.card(1, kind);
        }
        for (int kind = 0; kind < 3; kind++) {
            int what = 5 + kind;
            Checks.due("5: card of the last fencer " + what, 1, () -> last.fencer(23, what));
            Checks.due("5: card of the one before " + what, 0, () -> last.fencer(22, what));
        }
        Checks.due("32: cards of the last fencer", 3, () -> last.account(7));
        Checks.due("16: black behind yellow", 2, () -> {
            table.begin(7);
            table.card(1, 0);
            return table.card(1, 2);
        });
        Checks.due("6: phase goes on", 2, () -> table.meet(0));
    }

    private static void enteredResults() {
        FencingMeet m = Meets.onePool(4);
        Checks.fails("18: none", Checks.ELEMENT, m::refusal);
        Checks.fails("17: below", Checks.INDEX, () -> m.enter(-1, 5, 0, -1));
        Checks.fails("17: above", Checks.INDEX, () -> m.enter(6, 5, 0, -1));
        Checks.fails("18: still none", Checks.ELEMENT, m::refusal);
        refused(m, 4, 0, -1, 0, -1);
        refused(m, 4, 0, 6, 0, -1);
        refused(m, 4, 0, 0, -1, -1);
        refused(m, 4, 0, 0, 6, 3);
        refused(m, 4, 0, 6, 6, 0);
        refused(m, 4, 0, Checks.LEAST, Checks.GREATEST, 0);
        refused(m, 5, 0, 5, 5, 0);
        refused(m, 5, 0, 5, 5, -1);
        refused(m, 6, 0, 3, 3, -1);
        refused(m, 6, 0, 3, 3, 2);
        refused(m, 6, 0, 5, 3, 0);
        refused(m, 6, 0, 3, 5, 1);
        refused(m, 6, 0, 3, 5, -2);
        Checks.due("17: left wins", 0, () -> m.enter(0, 5, 3, -1));
        Checks.due("17: right wins", 2, () -> m.enter(1, 2, 3, -1));
        Checks.due("17: equal, left wins", 0, () -> m.enter(2, 0, 0, 0));
        Checks.due("17: equal, right wins", 2, () -> m.enter(3, 4, 4, 1));
        Checks.due("17: touches of the left", 4, () -> m.bout(3, 2));
        Checks.due("17: touches of the right", 3, () -> m.bout(1, 3));
        Checks.due("17: state", 2, () -> m.bout(3, 4));
        Checks.due("17: no priority", -1, () -> m.bout(3, 8));
        refused(m, 1, 0, 9, 9, 9);
        m.begin(4);
        refused(m, 1, 4, 5, 0, -1);
        refused(m, 2, 5, 9, 9, 9);
        Checks.due("17: state of the refused one", 0, () -> m.bout(5, 4));
        m.undo();
        Checks.due("18: stays behind undo", 2, m::refusal);
        m.enter(4, 1, 0, -1);
        Checks.due("18: stays behind a good one", 2, m::refusal);

        FencingMeet table = Meets.withTable(3);
        refused(table, 1, 3, 15, 0, -1);
        refused(table, 3, 5, 99, 0, -1);
        refused(table, 4, 4, 16, 0, -1);
        refused(table, 5, 4, 15, 15, 1);
        table.begin(4);
        refused(table, 2, 5, 15, 0, -1);
        table.undo();
        Checks.due("17: in the table", 2, () -> table.enter(4, 14, 15, -1));
        Checks.due("17: the final", 0, () -> table.enter(5, 7, 7, 0));
        FencingMeet right = Meets.withTable(4);
        right.enter(7, 15, 0, -1);
        refused(right, 3, 8, 15, 0, -1);
        Checks.fails("13: the left one is not known", Checks.UNSUPPORTED, () -> right.begin(8));
        Checks.due("17: over", 3, () -> table.meet(0));
    }

    private static void refused(FencingMeet m, int reason, int bout, int left, int right, int winner) {
        String what = "17: " + bout + " " + left + ":" + right + " " + winner;
        Checks.fails(what, Checks.UNSUPPORTED, () -> m.enter(bout, left, right, winner));
        Checks.due("18: reason of " + what, reason, m::refusal);
    }

    // ---- promises 19 to 28 ----

    private static void ranking() {
        FencingMeet m = Meets.with(0, 9, 0, 3, 0, 3, 0, 1);
        int[] byStrength = {3, 1, 2, 0};
        for (int i = 0; i < 4; i++) {
            int index = i;
            Checks.due("21: by strength " + i, byStrength[i], () -> m.ranked(index));
            Checks.due("22: by strength " + i, index, () -> m.place(byStrength[index]));
        }
        Checks.due("23: stronger", 4, () -> m.why(3, 0));
        Checks.due("23: weaker", -4, () -> m.why(0, 3));
        Checks.due("23: equal strength", 4, () -> m.why(1, 2));
        Checks.due("23: equal strength, turned round", -4, () -> m.why(2, 1));
        m.drawPools(1);
        // members are 3 1 2 0, bouts 3-1, 3-2, 3-0, 1-2, 1-0, 2-0
        m.enter(0, 5, 2, -1);
        int[] winner = {1, 1, 5, 2, 3};
        int[] loser = {0, 1, 2, 5, -3};
        for (int what = 0; what <= 4; what++) {
            int asked = what;
            Checks.due("19: winner " + what, winner[what], () -> m.result(3, asked));
            Checks.due("19: loser " + what, loser[what], () -> m.result(1, asked));
            Checks.due("19: no bout " + what, 0, () -> m.result(0, asked));
        }
        Checks.fails("19: fencer below", Checks.INDEX, () -> m.result(-1, 0));
        Checks.fails("19: fencer above", Checks.INDEX, () -> m.result(4, 5));
        Checks.fails("19: what below", Checks.ARGUMENT, () -> m.result(0, -1));
        Checks.fails("19: what above", Checks.ARGUMENT, () -> m.result(0, 5));
        Checks.due("20: all", 1.0, () -> m.ratio(3));
        Checks.due("20: none", 0.0, () -> m.ratio(1));
        Checks.fails("20: no bout counts", Checks.ARITHMETIC, () -> m.ratio(0));
        Checks.fails("20: below", Checks.INDEX, () -> m.ratio(-1));
        Checks.fails("20: above", Checks.INDEX, () -> m.ratio(4));
        Checks.due("23: no bout is a ratio of 0, so the indicator tells", 2, () -> m.why(0, 1));
        Checks.due("23: ratio", 1, () -> m.why(3, 0));
        Checks.due("23: ratio, turned round", -1, () -> m.why(0, 3));
        m.begin(1);
        m.touch(0);
        Checks.due("19: a bout in progress does not count", 1, () -> m.result(3, 1));
        m.undo();
        m.undo();
        m.enter(3, 3, 2, -1);
        m.enter(5, 2, 2, 1);
        // 1 has 1 of 2, 5:7; 2 has 0 of 2, 4:5; 0 has 1 of 1, 2:2; 3 has 1 of 1, 5:2
        Checks.due("20: a half", 0.5, () -> m.ratio(1));
        Checks.due("23: indicator", 2, () -> m.why(3, 0));
        Checks.due("23: indicator, turned round", -2, () -> m.why(0, 3));
        Checks.due("23: ratio before indicator", 1, () -> m.why(1, 2));
        int[] order = {3, 0, 1, 2};
        for (int i = 0; i < 4; i++) {
            int index = i;
            Checks.due("21: place " + i, order[i], () -> m.ranked(index));
            Checks.due("22: place " + i, index, () -> m.place(order[index]));
        }
        m.undo();
        m.undo();
        m.enter(5, 5, 2, -1);
        Checks.due("22: counted anew", 1, () -> m.place(2));
        Checks.due("23: all equal but the strength", 4, () -> m.why(3, 2));
        m.undo();
        m.enter(5, 4, 1, -1);
        Checks.due("23: touches scored", 3, () -> m.why(3, 2));
        Checks.due("23: touches scored, turned round", -3, () -> m.why(2, 3));
        Checks.due("23: touches scored by the losers", 3, () -> m.why(1, 0));
        Checks.fails("21: below", Checks.ELEMENT, () -> m.ranked(-1));
        Checks.fails("21: above", Checks.ELEMENT, () -> m.ranked(4));
        Checks.fails("22: below", Checks.INDEX, () -> m.place(-1));
        Checks.fails("22: above", Checks.INDEX, () -> m.place(4));
        Checks.fails("23: the same", Checks.ELEMENT, () -> m.why(1, 1));
        Checks.fails("23: one below", Checks.INDEX, () -> m.why(-1, 1));
        Checks.fails("23: other above", Checks.INDEX, () -> m.why(1, 4));
        Checks.fails("23: the index comes first", Checks.INDEX, () -> m.why(4, 4));
        m.begin(1);
        m.card(0, 2);
        Checks.fails("22: excluded", Checks.ELEMENT, () -> m.place(3));
        Checks.fails("23: one excluded", Checks.ELEMENT, () -> m.why(3, 0));
        Checks.fails("23: other excluded", Checks.ELEMENT, () -> m.why(0, 3));
        Checks.fails("23: excluded, and an index above", Checks.INDEX, () -> m.why(3, 4));
        Checks.fails("21: one less", Checks.ELEMENT, () -> m.ranked(3));
        Checks.due("21: the first one now", 2, () -> m.ranked(0));
        Checks.due("19: annulled bouts do not count", 0, () -> m.result(1, 1));
        Checks.fails("20: annulled bouts do not count", Checks.ARITHMETIC, () -> m.ratio(3));

        // 1 of 3 against 2 of 6 would be equal: thirds are compared exactly
        FencingMeet thirds = Meets.onePool(7);
        thirds.enter(thirds.poolBout(0, 1), 5, 0, -1);
        thirds.enter(thirds.poolBout(0, 2), 0, 5, -1);
        thirds.enter(thirds.poolBout(0, 3), 0, 5, -1);
        int[] others = {1, 2, 3, 4, 5};
        for (int other : others) {
            boolean wins = other == 1 || other == 2;
            thirds.enter(thirds.poolBout(other, 6), wins ? 0 : 1, wins ? 1 : 0, -1);
        }
        thirds.enter(thirds.poolBout(0, 6), 0, 1, -1);
        thirds.undo();
        thirds.begin(thirds.poolBout(0, 6));
        thirds.touch(0);
        thirds.undo();
        thirds.undo();
        Checks.due("23: 1 of 3 is less than 2 of 5", -1, () -> thirds.why(0, 6));
        thirds.enter(thirds.poolBout(0, 6), 5, 0, -1);
        Checks.due("23: 2 of 4 is more than 2 of 6", 1, () -> thirds.why(0, 6));
    }

    private static void table() {
        Checks.fails("24: phase 0", Checks.STATE, () -> Meets.with(0, 1, 0, 2).drawTable());
        FencingMeet m = Meets.fought(6);
        m.undo();
        Checks.fails("24: a bout is to come", Checks.STATE, m::drawTable);
        Checks.fails("25: no table", Checks.STATE, () -> m.seeded(1));
        Checks.fails("26: no table", Checks.STATE, () -> m.tableBout(2, 0));
        Checks.fails("28: no table", Checks.STATE, () -> m.toGo(0));
        Checks.fails("28: the index comes first", Checks.INDEX, () -> m.toGo(6));
        m.begin(14);
        Checks.fails("24: a bout is in progress", Checks.STATE, m::drawTable);
        m.undo();
        m.enter(14, 5, 1, -1);
        Checks.due("24: six fencers", 8, m::drawTable);
        Checks.fails("24: drawn already", Checks.STATE, m::drawTable);
        int[] sizes = {0, 0, 0, 4, 4, 8, 8, 8, 8, 16};
        for (int n = 3; n <= 9; n++) {
            int fencers = n;
            Checks.due("24: size for " + n, sizes[n], () -> Meets.fought(fencers).drawTable());
        }
        FencingMeet two = Meets.onePool(3);
        two.begin(0);
        two.card(0, 2);
        two.enter(2, 5, 1, -1);
        Checks.due("24: two fencers", 2, two::drawTable);
        Checks.due("24: the final alone", 4, () -> two.meet(3));
        Checks.due("24: its left side", 1, () -> two.bout(3, 0));
        Checks.due("24: its right side", 2, () -> two.bout(3, 1));
        Checks.due("28: one to go", 1, () -> two.toGo(2));
        Checks.fails("28: not in the table", Checks.ELEMENT, () -> two.toGo(0));
        Checks.fails("25: the excluded one has no seed", Checks.ELEMENT, () -> two.seeded(3));
        FencingMeet alone = Meets.onePool(3);
        alone.begin(0);
        alone.card(0, 2);
        alone.begin(2);
        alone.card(0, 2);
        Checks.fails("24: one fencer", Checks.STATE, alone::drawTable);

        for (int seed = 1; seed <= 6; seed++) {
            int asked = seed;
            Checks.due("25: seed " + seed, seed - 1, () -> m.seeded(asked));
        }
        Checks.fails("25: below", Checks.ELEMENT, () -> m.seeded(0));
        Checks.fails("25: far below", Checks.ELEMENT, () -> m.seeded(Checks.LEAST));
        Checks.fails("25: a seed of a bye", Checks.ELEMENT, () -> m.seeded(7));
        Checks.fails("25: above", Checks.ELEMENT, () -> m.seeded(Checks.GREATEST));

        // 1 8 4 5 2 7 3 6
        int[] left = {0, 3, 1, 2, 0, 1, -1};
        int[] right = {-1, 4, -1, 5, -1, -1, -1};
        int[] states = {4, 0, 4, 0, 0, 0, 0};
        for (int i = 0; i < 7; i++) {
            int b = i;
            Checks.due("24: left of bout " + b, left[b], () -> m.bout(15 + b, 0));
            Checks.due("24: right of bout " + b, right[b], () -> m.bout(15 + b, 1));
            Checks.due("24: state of bout " + b, states[b], () -> m.bout(15 + b, 4));
            int round = b < 4 ? 8 : b < 6 ? 4 : 2;
            int index = b < 4 ? b : b < 6 ? b - 4 : 0;
            Checks.due("26: bout " + b, 15 + b, () -> m.tableBout(round, index));
            Checks.due("10: round of bout " + b, 100 + round, () -> m.bout(15 + b, 6));
        }
        for (int round : new int[] {Checks.LEAST, -2, 0, 1, 3, 6, 16, Checks.GREATEST}) {
            Checks.fails("26: round " + round, Checks.ELEMENT, () -> m.tableBout(round, 0));
        }
        Checks.fails("26: index below", Checks.ELEMENT, () -> m.tableBout(8, -1));
        Checks.fails("26: index above", Checks.ELEMENT, () -> m.tableBout(8, 4));
        Checks.fails("26: index of the final", Checks.ELEMENT, () -> m.tableBout(2, 1));

        int[] toGo = {2, 2, 3, 3, 3, 3};
        for (int i = 0; i < 6; i++) {
            int fencer = i;
            Checks.due("28: at first, " + i, toGo[i], () -> m.toGo(fencer));
        }
        Checks.fails("28: below", Checks.INDEX, () -> m.toGo(-1));
        m.enter(16, 3, 15, -1);
        Checks.fails("28: has lost", Checks.ELEMENT, () -> m.toGo(3));
        Checks.due("28: has won", 2, () -> m.toGo(4));
        Checks.due("24: the winner goes to the right side", 4, () -> m.bout(19, 1));
        m.begin(18);
        Checks.due("28: a bout in progress is to be won", 3, () -> m.toGo(2));
        m.card(1, 2);
        Checks.fails("28: excluded", Checks.ELEMENT, () -> m.toGo(5));
        Checks.due("25: the excluded one keeps the seed", 5, () -> m.seeded(6));
        m.enter(19, 15, 0, -1);
        Checks.due("28: in the final", 1, () -> m.toGo(0));

        int[] order = {1, 16, 8, 9, 4, 13, 5, 12, 2, 15, 7, 10, 3, 14, 6, 11};
        FencingMeet sixteen = Meets.withTable(16);
        for (int i = 0; i < 16; i++) {
            int position = i;
            int bout = sixteen.tableBout(16, i / 2);
            Checks.due("24: position " + i, order[i] - 1, () -> sixteen.bout(bout, position % 2));
        }
        FencingMeet most = Meets.withTable(24);
        Checks.due("24: 24 fencers", 32, () -> most.meet(5));
        Checks.due("24: most bouts", 307, () -> most.meet(3));
        Checks.due("24: eight byes", 8, () -> most.account(4));
        Checks.due("26: the last bout", 306, () -> most.tableBout(2, 0));
    }

    private static void finalPlaces() {
        FencingMeet m = Meets.withTable(6);
        m.enter(16, 3, 15, -1);
        m.enter(18, 15, 3, -1);
        m.enter(19, 15, 0, -1);
        m.enter(20, 14, 15, -1);
        Checks.fails("27: not over", Checks.STATE, () -> m.finalist(1));
        Checks.due("27: the final", 15, () -> m.begin(21));
        Checks.fails("27: the final is in progress", Checks.STATE, () -> m.finalist(1));
        m.touch(1);
        m.time();
        Checks.due("6: over", 3, () -> m.meet(0));
        int[] places = {2, 0, 1, 4, 3, 5};
        for (int i = 0; i < 6; i++) {
            int place = i + 1;
            Checks.due("27: place " + place, places[i], () -> m.finalist(place));
        }
        Checks.fails("27: below", Checks.ELEMENT, () -> m.finalist(0));
        Checks.fails("27: far below", Checks.ELEMENT, () -> m.finalist(Checks.LEAST));
        Checks.fails("27: above", Checks.ELEMENT, () -> m.finalist(7));
        Checks.due("28: the winner", 0, () -> m.toGo(2));
        Checks.fails("28: the second", Checks.ELEMENT, () -> m.toGo(0));
        Checks.due("22: the ranking is that of the pool", 2, () -> m.place(2));
        Checks.due("19: the table does not count", 5, () -> m.result(2, 1));
    }

    // ---- promises 29 to 31 ----

    private static void relays() {
        FencingMeet m = Meets.withTable(8);
        Checks.fails("31: none", Checks.ELEMENT, () -> m.relay(0));
        Checks.fails("31: none comes first", Checks.ELEMENT, () -> m.relay(7));
        Checks.fails("30: none", Checks.STATE, () -> m.leg(0, 0));
        Checks.fails("30: none comes first", Checks.STATE, () -> m.leg(-1, 0));
        Checks.fails("29: club below", Checks.ARGUMENT, () -> m.beginRelay(-1, 0));
        Checks.fails("29: club above", Checks.ARGUMENT, () -> m.beginRelay(0, 8));
        Checks.fails("29: the same", Checks.ARGUMENT, () -> m.beginRelay(1, 1));
        Checks.fails("29: first too small", Checks.STATE, () -> m.beginRelay(5, 0));
        Checks.fails("29: other too small", Checks.STATE, () -> m.beginRelay(0, 5));
        Checks.fails("29: phase 1", Checks.STATE, () -> Meets.fought(8).beginRelay(0, 1));
        Checks.fails("29: phase 0", Checks.STATE, () -> Meets.with().beginRelay(0, 1));
        Checks.fails("29: the argument comes first", Checks.ARGUMENT, () -> Meets.with().beginRelay(0, 0));

        // club 1 has 1 3 5 7, club 0 has 0 2 4 6: fencers 1 2 3 are 1 3 5, fencers 4 5 6 are 0 2 4
        Checks.due("29: fencer 3", 5, () -> m.beginRelay(1, 0));
        int[] first = {5, 1, 3, 1, 5, 3, 1, 3, 5};
        int[] other = {4, 2, 0, 4, 0, 2, 0, 4, 2};
        for (int k = 1; k <= 9; k++) {
            int leg = k;
            Checks.due("31: told before leg " + k, leg - 1, () -> m.relay(0));
            Checks.due("31: first of leg " + k, first[k - 1], () -> m.relay(4));
            Checks.due("31: other of leg " + k, other[k - 1], () -> m.relay(5));
            Checks.due("31: undecided " + k, -1, () -> m.relay(3));
            Checks.fails("30: too great for the first " + k, Checks.ARGUMENT, () -> m.leg(6, 0));
            Checks.fails("30: too great for the other " + k, Checks.ARGUMENT, () -> m.leg(0, 5 * leg + 1));
            Checks.fails("30: negative " + k, Checks.ARGUMENT, () -> m.leg(-1, 0));
            Checks.fails("30: other negative " + k, Checks.ARGUMENT, () -> m.leg(0, Checks.LEAST));
            Checks.fails("30: very great " + k, Checks.ARGUMENT, () -> m.leg(Checks.GREATEST, Checks.GREATEST));
            Checks.due("30: leg " + k, 9 - leg, () -> m.leg(5, leg == 9 ? 44 : 0));
            Checks.due("31: total " + k, 5 * leg, () -> m.relay(1));
        }
        Checks.due("31: legs", 9, () -> m.relay(0));
        Checks.due("31: other total", 44, () -> m.relay(2));
        Checks.due("31: the club that won", 1, () -> m.relay(3));
        Checks.due("31: nobody is next", -1, () -> m.relay(4));
        Checks.due("31: nobody is next in the other", -1, () -> m.relay(5));
        Checks.due("31: not drawn", 0, () -> m.relay(6));
        Checks.fails("31: below", Checks.ARGUMENT, () -> m.relay(-1));
        Checks.fails("31: above", Checks.ARGUMENT, () -> m.relay(7));
        Checks.fails("30: nine legs", Checks.STATE, () -> m.leg(0, 0));
        Checks.fails("30: nine legs come first", Checks.STATE, () -> m.leg(-1, 0));
        m.undo();
        Checks.due("31: undecided again", -1, () -> m.relay(3));
        m.leg(0, 45);
        Checks.due("31: the other club won", 0, () -> m.relay(3));

        Checks.due("29: in place of the one before", 4, () -> m.beginRelay(0, 1));
        Checks.due("31: begun anew", 0, () -> m.relay(0) + m.relay(1) + m.relay(2) + m.relay(6));
        Checks.due("30: the limit is that of each total", 8, () -> m.leg(5, 5));
        Checks.fails("30: the first one's", Checks.ARGUMENT, () -> m.leg(6, 5));
        Checks.fails("30: the other one's", Checks.ARGUMENT, () -> m.leg(5, 6));
        m.undo();
        Checks.due("31: undecided anew", -1, () -> m.relay(3));
        m.undo();
        Checks.due("31: the one before is back", 9, () -> m.relay(0));
        int[] seeds = {1, 2, 3, 4, 5, 6, 7, 8};
        for (int seed : seeds) {
            long z = (seed * 1103515245L + 12345L) % 2147483648L;
            int club = z / 65536 % 2 == 0 ? 1 : 0;
            m.setSeed(seed);
            m.beginRelay(1, 0);
            for (int leg = 1; leg <= 9; leg++) {
                m.leg(2, 2);
            }
            Checks.due("31: drawn from " + seed, club, () -> m.relay(3));
            Checks.due("31: was drawn", 1, () -> m.relay(6));
        }
        m.beginRelay(0, 1);
        Checks.due("31: the next one is not drawn", 0, () -> m.relay(6));

        // fencer 1 is the best of club 1; with a black card, 7 is the third of the club
        FencingMeet black = Meets.withTable(8);
        black.beginRelay(1, 0);
        black.begin(black.tableBout(8, 2));
        black.card(0, 2);
        Checks.due("29: who is in the relay stays", 5, () -> black.relay(4));
        Checks.due("29: excluded", 1, () -> black.fencer(1, 4));
        Checks.due("29: the third one now", 7, () -> black.beginRelay(1, 0));
        black.begin(black.tableBout(8, 3));
        black.card(1, 2);
        black.begin(black.tableBout(8, 1));
        black.card(0, 2);
        Checks.due("29: three are enough", 3, () -> {
            black.undo();
            black.undo();
            black.undo();
            return (int) java.util.stream.IntStream.range(0, 8)
                    .filter(f -> black.fencer(f, 0) == 1 && black.fencer(f, 4) == 0).count();
        });
        FencingMeet five = Meets.withTable(5);
        Checks.fails("29: two of the other club", Checks.STATE, () -> five.beginRelay(0, 1));
        Checks.due("29: in phase 3 too", 4, () -> {
            FencingMeet over = Meets.withTable(6);
            over.enter(16, 3, 15, -1);
            over.enter(18, 15, 3, -1);
            over.enter(19, 15, 0, -1);
            over.enter(20, 14, 15, -1);
            over.enter(21, 14, 15, -1);
            return over.beginRelay(0, 1);
        });
    }

    // ---- promises 32 to 38 ----

    private static void accounts() {
        FencingMeet m = Meets.onePool(4);
        Checks.fails("32: below", Checks.ARGUMENT, () -> m.account(-1));
        Checks.fails("32: above", Checks.ARGUMENT, () -> m.account(9));
        Checks.due("32: to come", 6, () -> m.account(0));
        m.enter(0, 5, 2, -1);
        m.enter(3, 4, 4, 1);
        m.begin(1);
        m.touch(0);
        m.card(0, 0);
        m.card(0, 0);
        int[] some = {3, 1, 2, 0, 0, 15, 0, 2, 2};
        for (int what = 0; what <= 8; what++) {
            int asked = what;
            Checks.due("32: account " + what, some[what], () -> m.account(asked));
        }
        m.card(0, 2);
        int[] annulled = {2, 0, 1, 3, 0, 8, 0, 3, 1};
        for (int what = 0; what <= 8; what++) {
            int asked = what;
            Checks.due("32: account with annulled bouts " + what, annulled[what], () -> m.account(asked));
        }
        FencingMeet table = Meets.withTable(3);
        table.enter(4, 15, 10, -1);
        int[] late = {1, 0, 4, 0, 1, 18 + 25, 0, 0, 3};
        for (int what = 0; what <= 8; what++) {
            int asked = what;
            Checks.due("32: account with the table " + what, late[what], () -> table.account(asked));
        }
    }

    private static void texts() {
        FencingMeet m = Meets.onePool(4);
        fault(m, "", 0);
        fault(m, "0", 1);
        fault(m, "0=5:1", 5);
        fault(m, "0=5:1l", 6);
        fault(m, ";", 0);
        fault(m, "=", 0);
        fault(m, "0:", 1);
        fault(m, "1234=", 3);
        fault(m, "0=;", 2);
        fault(m, "0=123:", 4);
        fault(m, "0=5:123;", 6);
        fault(m, "0=5;", 3);
        fault(m, "0=5:;", 4);
        fault(m, "0=5:l;", 4);
        fault(m, "0=5l:1;", 3);
        fault(m, "0=5:1lr;", 6);
        fault(m, "0=5:1l2;", 6);
        fault(m, "0=5:1L;", 5);
        fault(m, "0=5:1;;", 6);
        fault(m, "0=5:1; ", 6);
        fault(m, "0=5:1;1", 7);
        fault(m, "0=-1:1;", 2);
        fault(m, "0=5:1;1=5:1x", 11);
        fault(m, "\u06600=5:1;", 0);
        fault(m, "\uff10=5:1;", 0);
        fault(m, "/=5:1;", 0);
        fault(m, "0=5==", 3);
        Checks.due("34: nothing was entered", 6, () -> m.account(0));
        Checks.fails("34: nothing was refused", Checks.ELEMENT, m::refusal);

        Meets.type(m, "000=05:01;3=4:4r;");
        Checks.due("34: two results", 2, m::readResults);
        Checks.due("35: no fault", -1, m::faultPosition);
        Checks.due("34: left side", 5, () -> m.bout(0, 2));
        Checks.due("34: right side", 1, () -> m.bout(0, 3));
        Checks.due("34: winner of the first", 0, () -> m.bout(0, 5));
        Checks.due("34: winner of the second", 2, () -> m.bout(3, 5));
        Checks.fails("34: the buffer is empty", Checks.ARGUMENT, m::readResults);
        Checks.due("35: of an empty text", 0, m::faultPosition);
        Checks.due("34: each is a change, behind the five of the pool", 6, m::undo);
        Checks.due("34: undone", 0, () -> m.bout(3, 4));

        Meets.type(m, "1=2:2l;2=5:5l;3=5:0;");
        Checks.due("34: until one is refused", 1, m::readResults);
        Checks.due("18: its reason", 5, m::refusal);
        Checks.due("34: the left side wins", 0, () -> m.bout(1, 5));
        Checks.due("34: none behind it", 0, () -> m.bout(3, 4));
        Meets.type(m, "2=5:0;9=5:5l;3=5:0;");
        Checks.due("34: until one does not exist", 1, m::readResults);
        Checks.due("18: that is no reason", 5, m::refusal);
        Checks.due("34: none behind that", 0, () -> m.bout(3, 4));
        Meets.type(m, "3=2:2;");
        Checks.due("34: equal without a winner", 0, m::readResults);
        Checks.due("18: reason 6", 6, m::refusal);
        Meets.type(m, "3=2:1l;");
        Checks.due("34: a winner too many", 0, m::readResults);
        Meets.type(m, "3=99:1;");
        Checks.due("34: too many touches", 0, m::readResults);
        Checks.due("18: reason 4", 4, m::refusal);
        Checks.due("35: a refusal is no fault", -1, m::faultPosition);

        FencingMeet many = Meets.onePool(5);
        Meets.type(many, "0=1:0;1=1:0;2=1:0;3=1:0;4=1:0;5=1:0;6=1:0;7=1:0;8=1:0;9=1:0;");
        Checks.fails("33: the 61st", Checks.STATE, () -> many.append('0'));
        Checks.due("34: ten results", 10, many::readResults);
        Checks.due("36: eight changes are kept", 7, many::undo);
        many.append('\u1234');
        Checks.fails("33: any character", Checks.ARGUMENT, many::readResults);
        Checks.due("35: its fault", 0, many::faultPosition);
        for (int i = 0; i < 60; i++) {
            many.append(' ');
        }
        Checks.fails("33: full", Checks.STATE, () -> many.append(';'));
        Checks.fails("34: sixty spaces", Checks.ARGUMENT, many::readResults);
        Checks.due("35: at the first one", 0, many::faultPosition);
        many.append('7');
        Checks.fails("34: emptied before", Checks.ARGUMENT, many::readResults);
        Checks.due("35: one digit", 1, many::faultPosition);

        FencingMeet big = Meets.withTable(24);
        Meets.type(big, "277=15:14;");
        Checks.due("34: three digits and two", 1, big::readResults);
        Checks.due("34: their touches", 29, () -> big.bout(277, 2) + big.bout(277, 3));
        Meets.type(big, "278=01:0;");
        big.save();
        big.undo();
        Checks.due("34: undo leaves the buffer", 0, big::readResults);
        Checks.due("18: a bye is not to come", 1, big::refusal);
        Meets.type(big, "999=1:0;");
        Checks.due("34: no such bout", 0, big::readResults);
    }

    private static void fault(FencingMeet m, String text, int position) {
        Meets.type(m, text);
        Checks.fails("34: '" + text + "'", Checks.ARGUMENT, m::readResults);
        Checks.due("35: '" + text + "'", position, m::faultPosition);
    }

    private static void changes() {
        FencingMeet m = new FencingMeet();
        for (int i = 0; i < 9; i++) {
            m.addFencer(0, 9 - i);
        }
        for (int left = 7; left >= 0; left--) {
            int want = left;
            Checks.due("36: left " + left, want, m::undo);
        }
        Checks.fails("36: the ninth", Checks.STATE, m::undo);
        Checks.due("36: one fencer is left", 1, () -> m.meet(1));
        m.addFencer(1, 5);
        m.addFencer(2, 6);
        Checks.due("36: entered anew", 1, () -> m.fencer(1, 0));
        m.drawPools(1);
        m.undo();
        Checks.due("36: phase 0 again", 0, () -> m.meet(0) + m.meet(2) + m.meet(3));
        Checks.due("36: no pool again", -1, () -> m.fencer(0, 2));
        m.drawPools(1);
        m.begin(0);
        m.card(0, 0);
        m.undo();
        Checks.due("36: no card again", 0, () -> m.fencer(1, 5));
        Checks.due("36: the card is the first one again", 0, () -> m.card(0, 0));
        m.time();
        int drawn = m.bout(0, 8);
        m.undo();
        Checks.due("36: no priority again", -1, () -> m.bout(0, 8));
        m.time();
        Checks.due("36: the seed is kept", drawn, () -> m.bout(0, 8));
        m.time();
        m.enter(1, 5, 0, -1);
        m.enter(2, 5, 0, -1);
        m.drawTable();
        m.undo();
        Checks.due("36: no table again", 0, () -> m.meet(5));
        Checks.due("36: phase 1 again", 1, () -> m.meet(0));
        Checks.due("36: bouts of the pool alone", 3, () -> m.meet(3));
        Checks.fails("36: no bout of the table", Checks.INDEX, () -> m.bout(3, 0));
        m.drawTable();
        Checks.fails("38: nothing saved", Checks.STATE, m::restore);
        Checks.due("38: that forgets nothing", 7, m::undo);

        FencingMeet s = Meets.withTable(8);
        s.setSeed(11);
        s.beginRelay(0, 1);
        s.leg(1, 2);
        s.save();
        Checks.due("37: is no change", 1, s::undo);
        s.undo();
        s.beginRelay(1, 0);
        s.enter(28, 15, 0, -1);
        s.begin(29);
        s.card(0, 2);
        s.setSeed(12);
        s.enter(30, 1, 0, -1);
        s.restore();
        Checks.fails("38: forgets the changes", Checks.STATE, s::undo);
        Checks.due("38: the seed", 11, () -> s.setSeed(11));
        Checks.due("38: the relay", 1, () -> s.relay(0));
        Checks.due("38: its total", 2, () -> s.relay(2));
        Checks.due("38: the bouts", 0, () -> s.bout(28, 4) + s.bout(29, 4) + s.bout(30, 4));
        Checks.due("38: the fencers", 8, () -> s.meet(4));
        Checks.due("38: the next round", -1, () -> s.bout(32, 0));
        s.enter(28, 15, 0, -1);
        s.restore();
        Checks.due("38: the snapshot is kept", 0, () -> s.bout(28, 4));
        s.enter(28, 15, 0, -1);
        s.save();
        s.undo();
        s.restore();
        Checks.due("37: in place of the earlier one", 2, () -> s.bout(28, 4));
        Checks.due("37: with who advanced", 0, () -> s.bout(32, 0));

        restoreAnother();
        restoreSmaller();
        restoreOtherWay();

        FencingMeet kept = Meets.onePool(3);
        kept.save();
        Checks.fails("18: refused", Checks.UNSUPPORTED, () -> kept.enter(0, 5, 5, 0));
        Meets.type(kept, "0=1:");
        kept.restore();
        Meets.type(kept, "0;");
        Checks.due("38: the buffer does not belong to it", 1, kept::readResults);
        Checks.due("38: nor does the reason", 5, kept::refusal);
        Meets.type(kept, "x");
        Checks.fails("34: fault", Checks.ARGUMENT, kept::readResults);
        kept.restore();
        Checks.due("38: nor does the fault position", 0, kept::faultPosition);
        kept.begin(0);
        kept.restore();
        Checks.fails("38: no bout is in progress", Checks.ELEMENT, kept::current);
    }

    /** What is restored comes back whole, though another meet with other fencers, pools and relays stood between. */
    private static void restoreAnother() {
        Supplier<FencingMeet> fresh = () -> {
            FencingMeet m = new FencingMeet();
            m.save();
            return m;
        };
        Supplier<FencingMeet> restored = () -> {
            FencingMeet m = fresh.get();
            fenceWithTwoClubs(m);
            m.restore();
            return m;
        };
        Answers.same("38: nothing but the new meet", restored, fresh);
        Answers.differ("38: another meet", fresh, () -> Answers.behind(fresh, PromiseTests::fenceWithTwoClubs));
        Supplier<FencingMeet> second = () -> {
            FencingMeet m = restored.get();
            fenceWithThreeClubs(m);
            m.save();
            m.setSeed(1);
            return m;
        };
        Consumer<FencingMeet> more = m -> {
            m.enter(m.tableBout(16, 1), 15, 7, -1);
            m.beginRelay(2, 3);
        };
        Answers.same("38: as without what was before", second, () -> {
            FencingMeet m = new FencingMeet();
            fenceWithThreeClubs(m);
            m.save();
            m.setSeed(1);
            return m;
        });
        Answers.differ("38: it has changed", second, () -> Answers.behind(second, more));
        Answers.same("36: undone whole", second, () -> Answers.behind(second, m -> {
            more.accept(m);
            m.undo();
            m.undo();
        }));
        Answers.same("38: restored whole", second, () -> Answers.behind(second, m -> {
            more.accept(m);
            m.restore();
        }));
    }

    /** Eight fencers in two pools, a table with four black cards, and a relay that is fenced. */
    private static void fenceWithTwoClubs(FencingMeet m) {
        for (int i = 0; i < 8; i++) {
            m.addFencer(i / 4, i + 1);
        }
        int bouts = m.drawPools(2);
        for (int bout = 0; bout < bouts; bout++) {
            m.enter(bout, 2, 3, -1);
        }
        m.drawTable();
        m.beginRelay(0, 1);
        for (int leg = 0; leg < 9; leg++) {
            m.leg(1, 1);
        }
        for (int index = 0; index < 4; index++) {
            m.begin(m.tableBout(8, index));
            for (int kind = 0; kind < 3; kind++) {
                m.card(1 - index % 2, Math.min(kind, 1));
                m.card(index % 2, kind);
            }
        }
        Checks.due("16: four are excluded", 4, () -> m.meet(4));
        m.setSeed(99);
    }

    /** Twelve fencers in one pool, two of them excluded there, and a table. */
    private static void fenceWithThreeClubs(FencingMeet m) {
        for (int i = 0; i < 12; i++) {
            m.addFencer(3 - i / 4, 20 - i);
        }
        int bouts = m.drawPools(1);
        m.begin(0);
        m.card(0, 0);
        m.card(0, 1);
        m.card(0, 2);
        m.begin(bouts - 1);
        m.card(1, 0);
        m.card(1, 0);
        m.card(1, 2);
        for (int bout = 0; bout < bouts; bout++) {
            if (m.bout(bout, 4) == 0) {
                m.enter(bout, 4, 1, -1);
            }
        }
        m.drawTable();
    }

    /** Nothing is left of a greater meet when a smaller one is restored and fenced to its end. */
    private static void restoreSmaller() {
        Supplier<FencingMeet> small = () -> {
            FencingMeet m = Meets.entered(5);
            m.save();
            m.setSeed(1);
            return m;
        };
        Consumer<FencingMeet> toTable = m -> {
            int bouts = m.drawPools(1);
            for (int bout = 0; bout < bouts; bout++) {
                m.enter(bout, 5, 1, -1);
            }
            m.drawTable();
        };
        Consumer<FencingMeet> toEnd = m -> {
            toTable.accept(m);
            m.enter(11, 15, 1, -1);
            m.enter(14, 15, 1, -1);
            m.enter(15, 15, 1, -1);
            m.enter(16, 15, 1, -1);
        };
        Supplier<FencingMeet> again = () -> Answers.behind(small, m -> {
            addAs(m, 7, 1, 40);
            toTable.accept(m);
            m.begin(m.tableBout(16, 1));
            m.touch(0);
            m.restore();
        });
        Checks.due("36: over", 3, () -> Answers.behind(small, toEnd).meet(0));
        Answers.same("38: a smaller one", again, small);
        Answers.same("38: in its table", () -> Answers.behind(again, toTable), () -> Answers.behind(small, toTable));
        Answers.same("38: to its end", () -> Answers.behind(again, toEnd), () -> Answers.behind(small, toEnd));
        Checks.fails("29: two of the club are left", Checks.STATE,
                () -> Answers.behind(again, toTable).beginRelay(0, 1));
        Checks.due("28: the winner of the smaller one", 0, () -> Answers.behind(again, toEnd).toGo(0));
    }

    /** What is restored comes back whole, though changes were undone and others made in their place. */
    private static void restoreOtherWay() {
        restoredBehindOthers("the fencers", m -> { }, m -> addAs(m, 3, 1, 10), m -> addAs(m, 5, 2, 30));
        restoredBehindOthers("the pools", m -> addAs(m, 3, 1, 10), m -> {
            addAs(m, 3, 3, 40);
            m.drawPools(2);
        }, m -> {
            addAs(m, 5, 4, 5);
            m.drawPools(2);
        });
        restoredBehindOthers("the table", m -> {
            addAs(m, 3, 1, 10);
            addAs(m, 3, 3, 40);
            m.drawPools(2);
        }, m -> {
            for (int bout = 0; bout < 6; bout++) {
                m.enter(bout, 5, bout % 3, -1);
            }
            m.drawTable();
        }, m -> {
            for (int bout = 0; bout < 6; bout++) {
                m.enter(bout, bout % 3, 4, -1);
            }
            m.drawTable();
        });
    }

    private static void addAs(FencingMeet m, int count, int club, int strength) {
        for (int i = 0; i < count; i++) {
            m.addFencer(club, strength - i);
        }
    }

    /** Saves behind one run of calls, undoes this run, makes another one, and restores. */
    private static void restoredBehindOthers(String what, Consumer<FencingMeet> start, Consumer<FencingMeet> run,
            Consumer<FencingMeet> other) {
        Supplier<FencingMeet> saved = () -> {
            FencingMeet m = new FencingMeet();
            start.accept(m);
            m.setSeed(1);
            run.accept(m);
            m.save();
            return m;
        };
        Supplier<FencingMeet> others = () -> Answers.behind(saved, m -> {
            while (Checks.answerOf(m::undo) instanceof Integer) {
                Checks.isTrue("36: in phase 0 or 1", m.meet(0) < 2);
            }
            other.accept(m);
        });
        Answers.differ("38: " + what + " of the other run", saved, others);
        Answers.same("38: " + what + " of before", () -> Answers.behind(others, FencingMeet::restore),
                () -> Answers.behind(saved, m -> m.setSeed(1)));
    }

    // ---- what is -1 or 0 if there is none ----

    private static void noNumbers() {
        FencingMeet m = Meets.entered(6);
        Checks.due("5: no pool in phase 0", -1, () -> m.fencer(0, 2));
        Checks.due("5: no number in phase 0", -1, () -> m.fencer(0, 3));
        Checks.due("6: no pools in phase 0", 0, () -> m.meet(2));
        Checks.due("9: no pairs in phase 0", 0, m::clubPairs);
        m.drawPools(2);
        Checks.due("5: a pool in phase 1", 0, () -> m.fencer(0, 2));
        Checks.due("5: a number in phase 1", 0, () -> m.fencer(0, 3));
        Checks.due("6: pools in phase 1", 2, () -> m.meet(2));
        Checks.due("9: pairs in phase 1", 2, m::clubPairs);
        m.undo();
        Checks.due("5: no pool again", -1, () -> m.fencer(5, 2));
        Checks.due("5: no number again", -1, () -> m.fencer(5, 3));
        Checks.due("9: no pairs again", 0, m::clubPairs);
        FencingMeet fought = Meets.fought(5);
        Checks.due("6: no table", 0, () -> fought.meet(5));
        fought.drawTable();
        Checks.due("6: a table", 8, () -> fought.meet(5));
        fought.undo();
        Checks.due("6: no table again", 0, () -> fought.meet(5));
        noNumbersOfBouts();
        noNumbersOfRelays();
        FencingMeet reads = Meets.onePool(3);
        Checks.due("35: not read yet", -1, reads::faultPosition);
        Meets.type(reads, "0=");
        Checks.due("35: still not read", -1, reads::faultPosition);
        Checks.fails("34: too early", Checks.ARGUMENT, reads::readResults);
        Checks.due("35: a fault", 2, reads::faultPosition);
        Meets.type(reads, "0=1:0;");
        Checks.due("35: the fault of the latest call", 2, reads::faultPosition);
        reads.readResults();
        Checks.due("35: no fault", -1, reads::faultPosition);
        Meets.type(reads, "0=1:0;");
        Checks.due("34: refused", 0, reads::readResults);
        Checks.due("35: a refused result is no fault", -1, reads::faultPosition);
    }

    private static void noNumbersOfBouts() {
        FencingMeet m = Meets.withTable(3);
        Checks.due("10: a bye has one side", 0, () -> m.bout(3, 0));
        Checks.due("10: and no other", -1, () -> m.bout(3, 1));
        Checks.due("10: the other side wins it", 0, () -> m.bout(3, 5));
        Checks.due("10: not known yet", -1, () -> m.bout(5, 1));
        Checks.due("10: nobody has won, to come", -1, () -> m.bout(4, 5));
        Checks.due("10: no priority, to come", -1, () -> m.bout(4, 8));
        m.begin(4);
        m.touch(2);
        Checks.due("10: nobody has won, in progress", -1, () -> m.bout(4, 5));
        Checks.due("10: no priority, in progress", -1, () -> m.bout(4, 8));
        m.time();
        int side = m.bout(4, 8);
        Checks.isTrue("10: priority", side == 0 || side == 1);
        Checks.due("10: nobody has won, with priority", -1, () -> m.bout(4, 5));
        m.time();
        Checks.due("10: won", 1 + side, () -> m.bout(4, 5));
        Checks.due("10: known now", 1 + side, () -> m.bout(5, 1));
        m.undo();
        Checks.due("10: not known again", -1, () -> m.bout(5, 1));
        FencingMeet pool = Meets.onePool(3);
        pool.enter(0, 5, 1, -1);
        Checks.due("10: won in the pool", 0, () -> pool.bout(0, 5));
        Checks.due("10: no priority, entered", -1, () -> pool.bout(0, 8));
        pool.begin(1);
        pool.card(0, 2);
        Checks.due("10: nobody has won, annulled", -1, () -> pool.bout(0, 5));
        Checks.due("10: the sides stay, annulled", 0, () -> pool.bout(0, 0));
        Checks.due("28: 0 for the winner", 0, () -> Meets.over(3).toGo(0));
        Checks.due("28: 1 in the final", 1, () -> Meets.beforeFinal(3).toGo(0));
    }

    private static void noNumbersOfRelays() {
        FencingMeet m = Meets.withTable(6);
        m.beginRelay(0, 1);
        for (int leg = 1; leg <= 9; leg++) {
            Checks.due("31: not decided before leg " + leg, -1, () -> m.relay(3));
            Checks.isTrue("31: the next ones before leg " + leg, m.relay(4) >= 0 && m.relay(5) >= 0);
            m.leg(1, 0);
        }
        Checks.due("31: decided", 0, () -> m.relay(3));
        Checks.due("31: no next one", -1, () -> m.relay(4));
        Checks.due("31: nor of the other", -1, () -> m.relay(5));
        m.undo();
        Checks.due("31: not decided again", -1, () -> m.relay(3));
        Checks.due("31: the next one again", 4, () -> m.relay(4));
        m.leg(0, 40);
        Checks.due("31: decided otherwise", 1, () -> m.relay(3));
    }
}
