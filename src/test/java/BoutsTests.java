import java.util.function.Consumer;
import java.util.function.Supplier;

/** Each sentence of the description about bouts and entered results, on both sides of its boundaries. */
public final class BoutsTests {
    private BoutsTests() {
    }

    public static void main(String[] args) {
        numbersOfBouts();
        pairsOfMembers();
        boutsOfTheTableFollow();
        states();
        oneInProgress();
        targets();
        touchForASide();
        doubleTouch();
        finishedByTouch();
        timeWithMoreTouches();
        timeWithEqualTouches();
        drawnNumbers();
        drawnSides();
        shownCards();
        yellowCards();
        redCards();
        blackCardInTheTable();
        blackCardInAPool();
        enteredAtOnce();
        reasonsOfRefusal();
        orderOfReasons();
        Checks.end("BoutsTests");
    }

    // ---- bouts ----

    private static void numbersOfBouts() {
        Checks.about("Bouts are numbered from 0: first those of pool 0, then those of pool 1, and so on");
        FencingMeet m = Meets.drawn(7, 2);
        Checks.row("pool of bout", new int[] {0, 0, 0, 1, 1, 1, 1, 1, 1}, b -> m.bout(b, 6));
        Checks.fails("no more", Checks.INDEX, () -> m.bout(9, 6));
        FencingMeet six = Meets.drawn(18, 6);
        int[] pools = {0, 0, 0, 1, 1, 1, 2, 2, 2, 3, 3, 3, 4, 4, 4, 5, 5, 5};
        Checks.row("of six pools", pools, b -> six.bout(b, 6));
        Checks.due("of the greatest pool", 276, () -> Meets.onePool(24).meet(3));
    }

    private static void pairsOfMembers() {
        Checks.about("each pair of members i and j, with i less than j, has one bout, by ascending i and then "
                + "by ascending j, in which member i is on the left side, 0, and j on the right side, 1");
        FencingMeet m = Meets.drawn(7, 2);
        // pool 0 has 0 3 4, pool 1 has 1 2 5 6
        Checks.row("left", new int[] {0, 0, 3, 1, 1, 1, 2, 2, 5}, b -> m.bout(b, 0));
        Checks.row("right", new int[] {3, 4, 4, 2, 5, 6, 5, 6, 6}, b -> m.bout(b, 1));
    }

    private static void boutsOfTheTableFollow() {
        Checks.about("The bouts of the table follow.");
        FencingMeet m = Meets.withTable(3);
        Checks.row("pool or round", new int[] {0, 0, 0, 104, 104, 102}, b -> m.bout(b, 6));
        Checks.fails("no more", Checks.INDEX, () -> m.bout(6, 6));
        Checks.due("the first one", 3, () -> m.tableBout(4, 0));
    }

    private static void states() {
        Checks.about("A bout is in one of these states: 0 to come, 1 in progress, 2 finished, 3 annulled, 4 "
                + "bye.");
        FencingMeet m = Meets.onePool(4);
        Checks.due("to come", 0, () -> m.bout(1, 4));
        m.begin(1);
        Checks.due("in progress", 1, () -> m.bout(1, 4));
        m.touch(0);
        Checks.due("still in progress", 1, () -> m.bout(1, 4));
        m.time();
        Checks.due("finished", 2, () -> m.bout(1, 4));
        m.begin(0);
        m.card(0, 2);
        Checks.row("annulled", new int[] {3, 3, 3, 0, 0, 0}, b -> m.bout(b, 4));
        Checks.due("bye", 4, () -> Meets.withTable(3).bout(3, 4));
    }

    private static void oneInProgress() {
        Checks.about("At most one bout is in progress.");
        FencingMeet m = Meets.onePool(4);
        m.begin(0);
        for (int bout = 0; bout < 6; bout++) {
            int b = bout;
            Checks.fails("another, " + b, Checks.UNSUPPORTED, () -> m.begin(b));
        }
        Checks.due("one", 1, () -> m.account(1));
        m.touch(0);
        m.time();
        Checks.due("none", 0, () -> m.account(1));
        Checks.due("behind a finished one", 5, () -> m.begin(1));
        m.card(1, 2);
        Checks.due("none again", 0, () -> m.account(1));
        Checks.due("behind an annulled one", 5, () -> m.begin(4));
        Checks.due("is in progress", 4, m::current);
    }

    private static void targets() {
        Checks.about("The target is 5 in pools and 15 in the table.");
        for (int side = 0; side <= 1; side++) {
            FencingMeet m = Meets.withTable(4);
            Checks.due("in the pool", 5, () -> m.bout(0, 7));
            Checks.due("in the table", 15, () -> m.bout(6, 7));
            Checks.due("in the final", 15, () -> m.bout(8, 7));
            Checks.due("of the table, told by begin", 15, () -> m.begin(7));
            int s = side;
            for (int i = 1; i <= 15; i++) {
                Checks.due("touch " + i + " in the table", i < 15 ? 1 : 2, () -> m.touch(s));
            }
            FencingMeet p = Meets.onePool(3);
            Checks.due("of the pool, told by begin", 5, () -> p.begin(2));
            for (int i = 1; i <= 5; i++) {
                Checks.due("touch " + i + " in the pool", i < 5 ? 1 : 2, () -> p.touch(s));
            }
        }
    }

    // ---- touches ----

    private static void touchForASide() {
        Checks.about("a touch for a side adds 1 to its touches");
        FencingMeet m = Meets.inPool(0, 0);
        m.touch(0);
        Checks.touches("left", m, 0, 1, 0);
        m.touch(1);
        Checks.touches("right", m, 0, 1, 1);
        m.touch(1);
        Checks.touches("right again", m, 0, 1, 2);
        Checks.touches("another bout", m, 1, 0, 0);
    }

    private static void doubleTouch() {
        Checks.about("a double touch adds 1 to both sides, but does not count (and is a change all the same) "
                + "if one of them has 1 less than the target, or there is priority");
        int[][] counts = {{0, 0}, {3, 3}, {3, 0}, {0, 3}, {3, 2}};
        int[][] not = {{4, 0}, {0, 4}, {4, 3}, {3, 4}, {4, 4}};
        for (int[] t : counts) {
            doubled("pool " + t[0] + ":" + t[1], Meets.inPool(t[0], t[1]), 0, t[0] + 1, t[1] + 1);
        }
        for (int[] t : not) {
            doubled("pool " + t[0] + ":" + t[1], Meets.inPool(t[0], t[1]), 0, t[0], t[1]);
            doubled("table " + t[0] + ":" + t[1], Meets.inTable(t[0], t[1]), 6, t[0] + 1, t[1] + 1);
            doubled("table, 10 more", Meets.inTable(t[0] + 10, t[1] + 10), 6, t[0] + 10, t[1] + 10);
        }
        for (int[] t : new int[][] {{13, 13}, {13, 0}, {0, 13}}) {
            doubled("table " + t[0] + ":" + t[1], Meets.inTable(t[0], t[1]), 6, t[0] + 1, t[1] + 1);
        }
        for (int each : new int[] {0, 1, 3}) {
            FencingMeet m = Meets.inPool(each, each);
            m.time();
            doubled("with priority at " + each, m, 0, each, each);
            Checks.isTrue("the priority stays", m.bout(0, 8) >= 0);
        }
    }

    private static void doubled(String what, FencingMeet m, int bout, int left, int right) {
        int before = m.bout(bout, 2);
        // what comes before is forgotten, so that the double touch is the one change that is kept
        m.setSeed(1);
        Checks.due(what + " goes on", 1, () -> m.touch(2));
        Checks.touches(what, m, bout, left, right);
        Checks.due(what + " is a change", 0, m::undo);
        Checks.due(what + " undone", before, () -> m.bout(bout, 2));
    }

    private static void finishedByTouch() {
        Checks.about("A bout is finished as soon as a side has the target; this side wins.");
        for (int side = 0; side <= 1; side++) {
            int s = side;
            for (int other : new int[] {0, 4}) {
                FencingMeet m = s == 0 ? Meets.inPool(4, other) : Meets.inPool(other, 4);
                Checks.due("4 are not enough", 1, () -> m.bout(0, 4));
                Checks.due("nobody has won", -1, () -> m.bout(0, 5));
                Checks.due("5 are", 2, () -> m.touch(s));
                Checks.due("the winner", s, () -> m.bout(0, 5));
                Checks.touches("at the end", m, 0, s == 0 ? 5 : other, s == 1 ? 5 : other);
                Checks.fails("no more", Checks.STATE, () -> m.touch(s));
            }
            FencingMeet table = s == 0 ? Meets.inTable(14, 14) : Meets.inTable(5, 14);
            Checks.due("14 are not enough", 1, () -> table.bout(6, 4));
            Checks.due("15 are", 2, () -> table.touch(s));
            Checks.due("the winner in the table", s == 0 ? 0 : 3, () -> table.bout(6, 5));
        }
    }

    // ---- time and priority ----

    private static void timeWithMoreTouches() {
        Checks.about("When the time runs out the first time, the side with more touches wins and the bout is "
                + "finished");
        int[][] touches = {{1, 0}, {0, 1}, {4, 3}, {3, 4}, {4, 0}};
        for (int[] t : touches) {
            int side = t[0] > t[1] ? 0 : 1;
            FencingMeet m = Meets.inPool(t[0], t[1]);
            Checks.due(t[0] + ":" + t[1], 2, m::time);
            Checks.due("the winner", side, () -> m.bout(0, 5));
            Checks.due("no priority", -1, () -> m.bout(0, 8));
            Checks.touches("as they are", m, 0, t[0], t[1]);
            Checks.fails("none in progress", Checks.STATE, m::time);
            FencingMeet table = Meets.inTable(t[0] + 10, t[1] + 10);
            Checks.due("table " + t[0] + ":" + t[1], 2, table::time);
            Checks.due("the winner in the table", side == 0 ? 0 : 3, () -> table.bout(6, 5));
            Checks.due("no number is drawn", 1, () -> table.setSeed(1));
        }
    }

    private static void timeWithEqualTouches() {
        Checks.about("with equal touches, one side is drawn, gets the priority, and the bout goes on until "
                + "the next touch of one side, also one by a card, which wins, or until the time runs out "
                + "again, when the side with the priority wins");
        for (int each : new int[] {0, 4}) {
            for (int side = 0; side <= 1; side++) {
                FencingMeet m = Meets.withPriority(side, each);
                Checks.due("goes on", 1, () -> m.bout(0, 4));
                Checks.due("nobody has won", -1, () -> m.bout(0, 5));
                Checks.touches("no touch", m, 0, each, each);
                Checks.due("a double touch is none", 1, () -> m.touch(2));
                Checks.due("a yellow card is none", 0, () -> m.card(prioritySide(m), 0));
                Checks.due("goes on still", 1, () -> m.bout(0, 4));
                Checks.due("time again", 2, m::time);
                Checks.due("the side with the priority wins", side, () -> m.bout(0, 5));
                Checks.touches("no touch at the end", m, 0, each, each);
                for (int scoring = 0; scoring <= 1; scoring++) {
                    int s = scoring;
                    wonWithPriority("touch", Meets.withPriority(side, each), s, each, x -> x.touch(s));
                    wonWithPriority("red card", Meets.withPriority(side, each), s, each, x -> x.card(1 - s, 1));
                    FencingMeet shown = Meets.withPriority(side, each);
                    shown.card(1 - s, 0);
                    wonWithPriority("second yellow card", shown, s, each, x -> x.card(1 - s, 0));
                }
            }
        }
        FencingMeet table = Meets.inTable(2, 2);
        table.time();
        int side = table.bout(6, 8);
        Checks.due("in the table", 2, table::time);
        Checks.due("the winner in the table", table.bout(6, side), () -> table.bout(6, 5));
        FencingMeet touched = Meets.inTable(2, 2);
        touched.time();
        Checks.due("one touch in the table", 2, () -> touched.touch(1 - side));
        Checks.touches("in the table", touched, 6, side == 0 ? 2 : 3, side == 0 ? 3 : 2);
    }

    private static int prioritySide(FencingMeet m) {
        return m.bout(0, 8);
    }

    private static void wonWithPriority(String how, FencingMeet m, int side, int each, Consumer<FencingMeet> last) {
        Checks.due(how + ": goes on until then", 1, () -> m.bout(0, 4));
        last.accept(m);
        Checks.due(how + ": finished", 2, () -> m.bout(0, 4));
        Checks.due(how + ": the side with the touch wins", side, () -> m.bout(0, 5));
        Checks.touches(how, m, 0, side == 0 ? each + 1 : each, side == 1 ? each + 1 : each);
    }

    private static void drawnNumbers() {
        Checks.about("To draw a side, a number z, which is the seed at first, becomes z times 1103515245 plus "
                + "12345, modulo 2147483648");
        // from 0 and 1 the sum is less than the modulus, from 2 on it is not
        int[][] numbers = {{0, 12345}, {1, 1103527590}, {2, 59559187}, {3, 1163074432}, {1073741824, 1073754169},
            {2147483646, 2087949151}, {2147483647, 1043980748}};
        for (int[] one : numbers) {
            Checks.due("by the formula " + one[0], one[1], () -> Draws.behind(one[0]));
            FencingMeet m = Meets.inPool(0, 0);
            m.setSeed(one[0]);
            m.time();
            Checks.due("z behind " + one[0], one[1], () -> m.setSeed(0));
        }
        for (long number : new long[] {0, 1, Draws.MODULUS - 1}) {
            FencingMeet m = Meets.inPool(1, 1);
            m.setSeed(Draws.seedBefore(number));
            m.time();
            Checks.due("the number " + number, (int) number, () -> m.setSeed(0));
        }
        // the second side is drawn from the number that the first one left, also behind entered results and in a relay
        FencingMeet m = Meets.withTable(8);
        m.setSeed(7);
        int z = 7;
        for (int bout = 28; bout <= 30; bout++) {
            int b = bout;
            z = Draws.behind(z);
            m.begin(b);
            m.time();
            Checks.due("side of bout " + b, z / 65536 % 2, () -> m.bout(b, 8));
            m.time();
        }
        m.enter(31, 3, 3, 0);
        m.beginRelay(0, 1);
        for (int leg = 0; leg < 9; leg++) {
            m.leg(0, 0);
        }
        z = Draws.behind(z);
        Checks.due("in the relay", z / 65536 % 2, () -> m.relay(3));
        Checks.due("z at the end", z, () -> m.setSeed(1));
    }

    private static void drawnSides() {
        Checks.about("the side is z divided by 65536, rounded down, modulo 2");
        long[] left = {0, 1, 65535, 131072, 196607, 2147418111L};
        long[] right = {65536, 65537, 131071, 196608, 2147418112L, 2147483647L};
        for (long z : left) {
            FencingMeet m = Meets.inPool(2, 2);
            m.setSeed(Draws.seedBefore(z));
            m.time();
            Checks.due("z " + z, 0, () -> m.bout(0, 8));
        }
        for (long z : right) {
            FencingMeet m = Meets.inPool(2, 2);
            m.setSeed(Draws.seedBefore(z));
            m.time();
            Checks.due("z " + z, 1, () -> m.bout(0, 8));
        }
    }

    // ---- cards ----

    private static void shownCards() {
        Checks.about("In a bout, a fencer can be shown cards: 0 yellow, 1 red, 2 black.");
        for (int kind = 0; kind <= 2; kind++) {
            for (int side = 0; side <= 1; side++) {
                int k = kind;
                int s = side;
                FencingMeet m = Meets.inPool(0, 0);
                Checks.due("counts as", k, () -> m.card(s, k));
                Checks.row("cards of the fencer", new int[] {k == 0 ? 1 : 0, k == 1 ? 1 : 0, k == 2 ? 1 : 0},
                        i -> m.fencer(s, 5 + i));
                Checks.row("cards of the other", new int[3], i -> m.fencer(1 - s, 5 + i));
                Checks.due("goes on", k == 2 ? 3 : 1, () -> m.bout(0, 4));
                Checks.due("all cards", 1, () -> m.account(7));
            }
        }
    }

    private static void yellowCards() {
        Checks.about("A yellow card for a fencer who has been shown any card in this bout counts as a red one.");
        for (int side = 0; side <= 1; side++) {
            int s = side;
            FencingMeet m = Meets.inPool(0, 0);
            Checks.due("the first one", 0, () -> m.card(s, 0));
            Checks.touches("no touch", m, 0, 0, 0);
            Checks.due("the first one of the other", 0, () -> m.card(1 - s, 0));
            Checks.touches("no touch still", m, 0, 0, 0);
            Checks.due("the second one", 1, () -> m.card(s, 0));
            Checks.touches("a touch for the other side", m, 0, s, 1 - s);
            Checks.due("the third one, behind one that counted as red", 1, () -> m.card(s, 0));
            Checks.row("of the fencer", new int[] {1, 2, 0}, i -> m.fencer(s, 5 + i));
            Checks.row("of the other", new int[] {1, 0, 0}, i -> m.fencer(1 - s, 5 + i));
            FencingMeet red = Meets.inPool(0, 0);
            red.card(s, 1);
            Checks.due("of the other, behind a red one", 0, () -> red.card(1 - s, 0));
            Checks.due("behind a red one", 1, () -> red.card(s, 0));
            Checks.touches("two for the other side", red, 0, 2 * s, 2 - 2 * s);
        }
        // fencer 1 is on the right side of bout 0 and on the left side of bout 3
        FencingMeet next = Meets.inPool(0, 0);
        next.card(1, 0);
        next.card(1, 0);
        next.time();
        next.begin(3);
        Checks.due("in another bout", 0, () -> next.card(0, 0));
        Checks.due("of the one who is on that side there", 0, () -> next.card(1, 0));
        Checks.due("again in the other bout", 1, () -> next.card(0, 0));
        FencingMeet undone = Meets.inPool(0, 0);
        undone.card(0, 0);
        undone.undo();
        Checks.due("behind one that was undone", 0, () -> undone.card(0, 0));
        undone.touch(1);
        undone.time();
        undone.undo();
        Checks.due("in a bout whose end was undone", 1, () -> undone.card(0, 0));
        FencingMeet begun = Meets.inPool(0, 0);
        begun.card(0, 0);
        begun.undo();
        begun.undo();
        begun.begin(0);
        Checks.due("in a bout begun again", 0, () -> begun.card(0, 0));
    }

    private static void redCards() {
        Checks.about("A red card gives the other side a touch like any other one, which can finish the bout.");
        for (int side = 0; side <= 1; side++) {
            int s = side;
            FencingMeet three = s == 0 ? Meets.inPool(0, 3) : Meets.inPool(3, 0);
            three.card(s, 1);
            Checks.due("from 3 to 4", 1, () -> three.bout(0, 4));
            three.card(s, 1);
            Checks.due("from 4 to 5", 2, () -> three.bout(0, 4));
            Checks.due("the other side wins", 1 - s, () -> three.bout(0, 5));
            Checks.touches("at the end", three, 0, 5 * s, 5 - 5 * s);
            FencingMeet own = s == 0 ? Meets.inPool(4, 0) : Meets.inPool(0, 4);
            own.card(s, 1);
            Checks.due("with 4 of one's own", 1, () -> own.bout(0, 4));
            FencingMeet yellow = Meets.inPool(4, 4);
            yellow.card(s, 0);
            Checks.due("yellow at 4", 1, () -> yellow.bout(0, 4));
            Checks.due("yellow again at 4", 1, () -> yellow.card(s, 0));
            Checks.due("finishes", 2, () -> yellow.bout(0, 4));
            Checks.due("the other side has won", 1 - s, () -> yellow.bout(0, 5));
            FencingMeet table = s == 0 ? Meets.inTable(4, 13) : Meets.inTable(13, 4);
            table.card(s, 1);
            Checks.due("from 13 to 14", 1, () -> table.bout(6, 4));
            table.card(s, 1);
            Checks.due("from 14 to 15", 2, () -> table.bout(6, 4));
            Checks.due("the other side advances", table.bout(6, 1 - s), () -> table.bout(8, 0));
        }
    }

    private static void blackCardInTheTable() {
        Checks.about("A black card excludes the fencer; the other side wins the bout, which is finished with "
                + "the touches as they are.");
        for (int side = 0; side <= 1; side++) {
            for (int[] t : new int[][] {{0, 0}, {14, 0}, {0, 14}, {7, 7}}) {
                int s = side;
                FencingMeet m = Meets.inTable(t[0], t[1]);
                int loser = m.bout(6, s);
                int winner = m.bout(6, 1 - s);
                int count = m.result(loser, 1);
                Checks.due("black", 2, () -> m.card(s, 2));
                Checks.due("excluded", 1, () -> m.fencer(loser, 4));
                Checks.due("the other is not", 0, () -> m.fencer(winner, 4));
                Checks.due("finished", 2, () -> m.bout(6, 4));
                Checks.due("the other side wins", winner, () -> m.bout(6, 5));
                Checks.due("and advances", winner, () -> m.bout(8, 0));
                Checks.touches("as they are", m, 6, t[0], t[1]);
                Checks.due("the bouts of the pool stand", count, () -> m.result(loser, 1));
                Checks.due("nothing is annulled", 0, () -> m.account(3));
                Checks.fails("none in progress", Checks.ELEMENT, m::current);
            }
        }
    }

    private static void blackCardInAPool() {
        Checks.about("If this is a bout of a pool, all bouts of the fencer in the pool, finished or not, this "
                + "one included, are annulled instead, and have no touches, no winner and no priority any "
                + "more.");
        // 1 is on the right side of bout 0, finished with priority, and on the left side of 4, to come, 5 and 6
        FencingMeet m = Meets.onePool(5);
        m.begin(0);
        m.touch(2);
        m.time();
        m.time();
        m.enter(5, 5, 2, -1);
        m.enter(6, 3, 3, 1);
        m.enter(1, 5, 1, -1);
        m.begin(4);
        m.touch(2);
        m.touch(0);
        m.card(1, 0);
        Checks.due("black", 2, () -> m.card(0, 2));
        Checks.row("states", new int[] {3, 2, 0, 0, 3, 3, 3, 0, 0, 0}, b -> m.bout(b, 4));
        for (int bout : new int[] {0, 4, 5, 6}) {
            Checks.touches("annulled " + bout, m, bout, 0, 0);
            Checks.due("no winner of " + bout, -1, () -> m.bout(bout, 5));
            Checks.due("no priority in " + bout, -1, () -> m.bout(bout, 8));
            Checks.fails("not to come " + bout, Checks.UNSUPPORTED, () -> m.begin(bout));
        }
        Checks.touches("another bout", m, 1, 5, 1);
        Checks.due("excluded", 1, () -> m.fencer(1, 4));
        Checks.due("the other one is not", 0, () -> m.fencer(2, 4));
        Checks.due("no bout counts", 0, () -> m.result(1, 1));
        Checks.due("nor for the others", 1, () -> m.result(0, 1));
        Checks.due("the cards stay", 2, () -> m.account(7));
        FencingMeet current = Meets.inPool(1, 1);
        current.time();
        current.card(1, 2);
        Checks.due("the priority of the bout itself", -1, () -> current.bout(0, 8));
        Checks.touches("the bout itself", current, 0, 0, 0);
        // a black card in pool 0 leaves the bouts of pool 1
        FencingMeet two = Meets.drawn(6, 2);
        two.enter(3, 5, 1, -1);
        two.begin(0);
        two.card(0, 2);
        Checks.row("states in two pools", new int[] {3, 3, 0, 2, 0, 0}, b -> two.bout(b, 4));
    }

    // ---- entered results ----

    /** 0 if the result is entered, and otherwise the reason for which it is refused. */
    private static int entering(FencingMeet m, int bout, int left, int right, int winner) {
        Object answer = Checks.answerOf(() -> m.enter(bout, left, right, winner));
        return answer instanceof Integer ? 0 : m.refusal();
    }

    private static void enteredAtOnce() {
        Checks.about("A result of a bout of a pool or of the table that is to come can be entered at once: "
                + "the touches of both sides, and, if they are equal, the winning side.");
        int[][] results = {{5, 0, -1, 0}, {0, 5, -1, 1}, {5, 4, -1, 0}, {4, 5, -1, 1}, {1, 0, -1, 0}, {0, 1, -1, 1},
            {0, 0, 0, 0}, {0, 0, 1, 1}, {4, 4, 0, 0}, {4, 4, 1, 1}};
        for (int[] r : results) {
            FencingMeet m = Meets.onePool(4);
            Checks.due("the fencer who won", r[3] == 0 ? 1 : 3, () -> m.enter(4, r[0], r[1], r[2]));
            Checks.touches("entered", m, 4, r[0], r[1]);
            Checks.due("finished", 2, () -> m.bout(4, 4));
            Checks.due("no priority", -1, () -> m.bout(4, 8));
            Checks.due("the one change", 5, m::undo);
            FencingMeet table = Meets.withTable(4);
            int more = r[0] == r[1] ? 0 : 10;
            Checks.due("in the table", r[3] == 0 ? 1 : 2, () -> table.enter(7, r[0] + more, r[1] + more, r[2]));
            Checks.touches("in the table", table, 7, r[0] + more, r[1] + more);
            Checks.due("advances", r[3] == 0 ? 1 : 2, () -> table.bout(8, 1));
        }
        FencingMeet table = Meets.withTable(4);
        Checks.due("5 are no target there", 0, () -> table.enter(6, 5, 5, 0));
        Checks.due("14 each", 2, () -> table.enter(7, 14, 14, 1));
    }

    private static void reasonsOfRefusal() {
        Checks.about("It is refused for the first of these reasons");
        FencingMeet m = Meets.onePool(4);
        m.enter(0, 5, 1, -1);
        Checks.due("1, finished", 1, () -> entering(m, 0, 5, 1, -1));
        Checks.due("0, to come", 0, () -> entering(m, 1, 5, 1, -1));
        m.begin(2);
        Checks.due("1, in progress itself", 1, () -> entering(m, 2, 5, 1, -1));
        Checks.due("2, a bout is in progress", 2, () -> entering(m, 3, 5, 1, -1));
        m.card(0, 2);
        Checks.due("1, annulled", 1, () -> entering(m, 2, 5, 1, -1));
        Checks.due("0, none is in progress", 0, () -> entering(m, 3, 5, 1, -1));
        FencingMeet table = Meets.withTable(6);
        Checks.due("1, a bye", 1, () -> entering(table, 15, 15, 1, -1));
        Checks.due("3, one is not known", 3, () -> entering(table, 19, 15, 1, -1));
        Checks.due("3, both are not known", 3, () -> entering(table, 21, 15, 1, -1));
        Checks.due("0, both are known", 0, () -> entering(table, 16, 15, 1, -1));
        Checks.due("0, both are known then", 0, () -> entering(table, 19, 15, 1, -1));
        Checks.due("3, the left one is known alone", 3, () -> entering(table, 21, 15, 1, -1));
        for (int target : new int[] {5, 15}) {
            Supplier<FencingMeet> fresh = target == 5 ? () -> Meets.onePool(4) : () -> Meets.withTable(4);
            int b = target == 5 ? 2 : 7;
            Checks.due("4, left below", 4, () -> entering(fresh.get(), b, -1, 1, -1));
            Checks.due("4, right below", 4, () -> entering(fresh.get(), b, 1, -1, -1));
            Checks.due("4, left above", 4, () -> entering(fresh.get(), b, target + 1, 1, -1));
            Checks.due("4, right above", 4, () -> entering(fresh.get(), b, 1, target + 1, -1));
            Checks.due("4, far off", 4, () -> entering(fresh.get(), b, Checks.LEAST, Checks.GREATEST, -1));
            Checks.due("0, left 0", 0, () -> entering(fresh.get(), b, 0, target, -1));
            Checks.due("0, right 0", 0, () -> entering(fresh.get(), b, target, 0, -1));
            Checks.due("5, both have the target", 5, () -> entering(fresh.get(), b, target, target, 0));
            Checks.due("0, one less", 0, () -> entering(fresh.get(), b, target - 1, target - 1, 0));
            for (int winner : new int[] {Checks.LEAST, -2, -1, 2, Checks.GREATEST}) {
                Checks.due("6, equal and " + winner, 6, () -> entering(fresh.get(), b, 3, 3, winner));
            }
            for (int winner : new int[] {Checks.LEAST, -2, 0, 1, 2, Checks.GREATEST}) {
                Checks.due("6, not equal and " + winner, 6, () -> entering(fresh.get(), b, 3, 2, winner));
                Checks.due("6, less and " + winner, 6, () -> entering(fresh.get(), b, 2, target, winner));
            }
            Checks.due("0, equal and 0", 0, () -> entering(fresh.get(), b, 3, 3, 0));
            Checks.due("0, equal and 1", 0, () -> entering(fresh.get(), b, 3, 3, 1));
            Checks.due("0, not equal and -1", 0, () -> entering(fresh.get(), b, 3, 2, -1));
        }
    }

    /** Each pair of reasons that can hold together. */
    private static void orderOfReasons() {
        Checks.about("It is refused for the first of these reasons: 1 before 2 before 3 before 4 before 5 "
                + "before 6");
        FencingMeet pool = Meets.onePool(4);
        pool.enter(0, 5, 1, -1);
        Checks.due("1 and 4", 1, () -> entering(pool, 0, 6, 1, -1));
        Checks.due("1 and 5", 1, () -> entering(pool, 0, 5, 5, 0));
        Checks.due("1 and 6", 1, () -> entering(pool, 0, 3, 3, -1));
        pool.begin(1);
        Checks.due("1 and 2, another", 1, () -> entering(pool, 0, 5, 1, -1));
        Checks.due("1 and 2, itself", 1, () -> entering(pool, 1, 5, 1, -1));
        Checks.due("2 and 4", 2, () -> entering(pool, 2, 6, 1, -1));
        Checks.due("2 and 5", 2, () -> entering(pool, 2, 5, 5, 0));
        Checks.due("2 and 6", 2, () -> entering(pool, 2, 3, 3, -1));
        FencingMeet table = Meets.withTable(6);
        Checks.due("1 and 3", 1, () -> entering(table, 15, 15, 1, -1));
        Checks.due("3 and 4", 3, () -> entering(table, 21, 16, 1, -1));
        Checks.due("3 and 5", 3, () -> entering(table, 21, 15, 15, 0));
        Checks.due("3 and 6", 3, () -> entering(table, 21, 3, 3, -1));
        Checks.due("4 and 6", 4, () -> entering(table, 16, 16, 16, -1));
        Checks.due("4 and 6, not equal", 4, () -> entering(table, 16, -1, 3, 1));
        Checks.due("5 and 6", 5, () -> entering(table, 16, 15, 15, -1));
        table.begin(16);
        Checks.due("2 and 3", 2, () -> entering(table, 21, 15, 1, -1));
        Checks.due("1, 2 and 3", 1, () -> entering(table, 15, 15, 1, -1));
        Checks.fails("none of the pool's", Checks.INDEX, () -> table.enter(22, 15, 1, -1));
        Checks.due("which is no reason", 1, table::refusal);
    }
}
