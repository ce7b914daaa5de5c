import java.util.stream.IntStream;

/** Each sentence of the description about ranking, table and final places, on both sides of its boundaries. */
public final class TableTests {
    private static final int[] ORDER_OF_32 = {1, 32, 16, 17, 8, 25, 9, 24, 4, 29, 13, 20, 5, 28, 12, 21,
        2, 31, 15, 18, 7, 26, 10, 23, 3, 30, 14, 19, 6, 27, 11, 22};
    private static final int[] ORDER_OF_16 = {1, 16, 8, 9, 4, 13, 5, 12, 2, 15, 7, 10, 3, 14, 6, 11};

    private TableTests() {
    }

    public static void main(String[] args) {
        boutsThatCount();
        reasonsOfRanking();
        ratios();
        allAreRanked();
        whenTheTableIsDrawn();
        sizesOfTheTable();
        seeds();
        orderOfSeeds();
        byes();
        nextRounds();
        roundsTold();
        finalPlaces();
        Checks.end("TableTests");
    }

    // ---- ranking ----

    private static void boutsThatCount() {
        Checks.about("For each fencer, the bouts of the pool that are finished count: victories, bouts, "
                + "touches scored, touches received, and the indicator, which is touches scored minus touches "
                + "received.");
        FencingMeet m = Meets.onePool(4);
        Checks.row("none", new int[5], what -> m.result(0, what));
        m.enter(0, 5, 1, -1);
        m.enter(1, 2, 4, -1);
        Checks.row("two", new int[] {1, 2, 7, 5, 2}, what -> m.result(0, what));
        Checks.row("one, lost", new int[] {0, 1, 1, 5, -4}, what -> m.result(1, what));
        m.begin(2);
        Meets.tell(m, 4, 1);
        Checks.row("not one in progress", new int[] {1, 2, 7, 5, 2}, what -> m.result(0, what));
        m.touch(0);
        Checks.row("three", new int[] {2, 3, 12, 6, 6}, what -> m.result(0, what));
        m.enter(3, 3, 3, 1);
        Checks.row("equal, won", new int[] {2, 2, 7, 5, 2}, what -> m.result(2, what));
        Checks.row("equal, lost", new int[] {0, 2, 4, 8, -4}, what -> m.result(1, what));
        m.begin(4);
        m.card(1, 2);
        Checks.row("not annulled ones", new int[] {1, 2, 7, 5, 2}, what -> m.result(0, what));
        Checks.row("none of the excluded one", new int[5], what -> m.result(3, what));
        FencingMeet table = Meets.beforeFinal(3);
        table.enter(5, 15, 1, -1);
        Checks.row("not those of the table", new int[] {2, 2, 10, 2, 8}, what -> table.result(0, what));
        Checks.row("nor for who lost there", new int[] {1, 2, 6, 6, 0}, what -> table.result(1, what));
    }

    private static void reasonsOfRanking() {
        Checks.about("A fencer ranks before another one by the first of these reasons that holds: 1, a "
                + "greater ratio of victories to bouts; 2, a greater indicator; 3, more touches scored; 4, "
                + "being stronger.");
        // 3 ranks before 0 for each reason, though all the later ones are against it
        FencingMeet one = Meets.onePool(4);
        one.enter(0, 5, 0, -1);
        one.enter(1, 4, 5, -1);
        one.enter(5, 0, 1, -1);
        why("ratio", one, 3, 0, 1);
        FencingMeet two = Meets.onePool(4);
        two.enter(0, 5, 4, -1);
        two.enter(5, 0, 2, -1);
        why("indicator", two, 3, 0, 2);
        FencingMeet three = Meets.onePool(4);
        three.enter(0, 2, 1, -1);
        three.enter(5, 2, 3, -1);
        why("touches scored", three, 3, 0, 3);
        FencingMeet four = Meets.onePool(4);
        four.enter(0, 3, 2, -1);
        four.enter(5, 2, 3, -1);
        why("being stronger", four, 0, 3, 4);
        FencingMeet equal = Meets.with(0, 5, 0, 5, 0, 5, 0, 5);
        equal.drawPools(1);
        equal.enter(0, 3, 2, -1);
        equal.enter(5, 2, 3, -1);
        why("the lower number", equal, 0, 3, 4);
    }

    private static void why(String what, FencingMeet m, int before, int behind, int reason) {
        Checks.due(what, reason, () -> m.why(before, behind));
        Checks.due(what + ", turned round", -reason, () -> m.why(behind, before));
        Checks.isTrue(what + ", the places", m.place(before) < m.place(behind));
    }

    private static void ratios() {
        Checks.about("a greater ratio of victories to bouts, compared exactly, where the ratio is 0 without "
                + "bouts");
        // 0 has no bout; 1 has lost one, 2 has won one; 4 has lost 0:0
        FencingMeet m = Meets.onePool(5);
        m.enter(m.poolBout(1, 2), 2, 3, -1);
        m.enter(m.poolBout(3, 4), 0, 0, 0);
        why("no bout and none won, by the indicator", m, 0, 1, 2);
        why("no bout and none won, by the strength", m, 0, 4, 4);
        why("one won and no bout", m, 2, 0, 1);
        why("one won by side and no bout", m, 3, 0, 1);
        // 1 of 2 and 2 of 4 are equal, 1 of 3 and 2 of 4 are not
        FencingMeet halves = Meets.onePool(7);
        enterAll(halves, 0, new int[] {1, 2}, 1);
        enterAll(halves, 6, new int[] {2, 3, 4, 5}, 2);
        why("1 of 2 and 2 of 4", halves, 6, 0, 2);
        enterAll(halves, 0, new int[] {3}, 0);
        why("2 of 4 and 1 of 3", halves, 6, 0, 1);
        // 11 of 23 is 1/483 more than 10 of 21
        FencingMeet close = Meets.onePool(24);
        enterAll(close, 0, IntStream.range(1, 24).toArray(), 11);
        enterAll(close, 23, IntStream.range(2, 22).toArray(), 9);
        Checks.due("bouts of 23", 21, () -> close.result(23, 1));
        Checks.due("victories of 23", 10, () -> close.result(23, 0));
        why("11 of 23 and 10 of 21", close, 0, 23, 1);
    }

    /** The fencer wins 5:0 against the first ones as often as told, and then loses 4:5. */
    private static void enterAll(FencingMeet m, int fencer, int[] others, int victories) {
        for (int i = 0; i < others.length; i++) {
            int bout = m.poolBout(fencer, others[i]);
            boolean isLeft = m.bout(bout, 0) == fencer;
            int own = i < victories ? 5 : 4;
            int against = i < victories ? 0 : 5;
            m.enter(bout, isLeft ? own : against, isLeft ? against : own, -1);
        }
    }

    private static void allAreRanked() {
        Checks.about("All fencers who are not excluded are ranked.");
        FencingMeet m = Meets.entered(4);
        Checks.row("in phase 0", new int[] {0, 1, 2, 3}, m::ranked);
        Checks.fails("no more", Checks.ELEMENT, () -> m.ranked(4));
        m.drawPools(1);
        m.begin(0);
        m.card(0, 2);
        Checks.row("without the excluded one", new int[] {1, 2, 3}, m::ranked);
        Checks.fails("one less", Checks.ELEMENT, () -> m.ranked(3));
        Checks.fails("no place", Checks.ELEMENT, () -> m.place(0));
        Checks.row("the places of the others", new int[] {0, 1, 2}, i -> m.place(i + 1));
        FencingMeet table = Meets.inTable(0, 0);
        table.card(0, 2);
        Checks.row("excluded in the table", new int[] {1, 2, 3}, table::ranked);
    }

    // ---- table ----

    private static void whenTheTableIsDrawn() {
        Checks.about("The table is drawn when no bout of a pool is to come or in progress and at least two "
                + "fencers are not excluded.");
        FencingMeet m = Meets.fought(3);
        m.undo();
        Checks.fails("one is to come", Checks.STATE, m::drawTable);
        m.begin(2);
        Checks.fails("one is in progress", Checks.STATE, m::drawTable);
        m.touch(0);
        m.time();
        Checks.due("all are finished", 4, m::drawTable);
        FencingMeet left = Meets.onePool(4);
        left.begin(0);
        left.card(0, 2);
        left.begin(3);
        left.card(0, 2);
        Checks.fails("one to come of two who are left", Checks.STATE, left::drawTable);
        left.enter(5, 1, 0, -1);
        Checks.due("two are left", 2, left::drawTable);
        left.undo();
        left.undo();
        left.begin(5);
        left.card(1, 2);
        Checks.due("all are annulled", 6, () -> left.account(3));
        Checks.fails("one is left", Checks.STATE, left::drawTable);
        Checks.due("who is not excluded", 1, () -> left.meet(4));
    }

    private static void sizesOfTheTable() {
        Checks.about("Its size is the least power of 2 that is not less than the number of fencers who are "
                + "not excluded");
        int[] sizes = {4, 4, 8, 8, 8, 8, 16, 16, 16, 16, 16, 16, 16, 16, 32, 32, 32, 32, 32, 32, 32, 32};
        Checks.row("size for 3 and", sizes, i -> Meets.fought(i + 3).drawTable());
        Checks.row("told for 3 and", sizes, i -> Meets.withTable(i + 3).meet(5));
        Checks.due("for 2", 2, () -> Meets.withFinalAlone().meet(5));
        FencingMeet four = Meets.onePool(5);
        four.begin(0);
        four.card(1, 2);
        for (int bout = 1; bout < 10; bout++) {
            if (four.bout(bout, 4) == 0) {
                four.enter(bout, 5, 1, -1);
            }
        }
        Checks.due("for 4 of 5", 4, four::drawTable);
    }

    private static void seeds() {
        Checks.about("these are seeded from 1 on as they rank at this moment");
        // 3 wins all, 1 is excluded, 2 beats 0
        FencingMeet m = Meets.onePool(4);
        m.enter(1, 1, 5, -1);
        m.enter(2, 1, 5, -1);
        m.enter(5, 1, 5, -1);
        m.begin(0);
        m.card(1, 2);
        m.drawTable();
        Checks.row("seeded", new int[] {3, 2, 0}, i -> m.seeded(i + 1));
        Checks.fails("seed 0", Checks.ELEMENT, () -> m.seeded(0));
        Checks.fails("seed 4", Checks.ELEMENT, () -> m.seeded(4));
        m.begin(m.tableBout(4, 1));
        m.card(0, 2);
        Checks.row("at this moment, not later", new int[] {3, 2, 0}, i -> m.seeded(i + 1));
    }

    private static void orderOfSeeds() {
        Checks.about("The seeds stand in this order: for size 2, it is 1 2; for twice a size m, each seed x "
                + "of the order for m is replaced by x and 2 * m + 1 - x. The first round has a bout of the "
                + "first and second seed in this order, one of the third and fourth, and so on");
        FencingMeet two = Meets.withFinalAlone();
        Checks.due("1 of 2", two.seeded(1), () -> two.bout(3, 0));
        Checks.due("2 of 2", two.seeded(2), () -> two.bout(3, 1));
        firstRound(Meets.withTable(4), 4, new int[] {1, 4, 2, 3});
        firstRound(Meets.withTable(3), 3, new int[] {1, 4, 2, 3});
        firstRound(Meets.withTable(8), 8, new int[] {1, 8, 4, 5, 2, 7, 3, 6});
        firstRound(Meets.withTable(5), 5, new int[] {1, 8, 4, 5, 2, 7, 3, 6});
        firstRound(Meets.withTable(16), 16, ORDER_OF_16);
        firstRound(Meets.withTable(9), 9, ORDER_OF_16);
        firstRound(Meets.withTable(24), 24, ORDER_OF_32);
        firstRound(Meets.withTable(17), 17, ORDER_OF_32);
    }

    /** In these tables, fencer i has the seed i + 1. */
    private static void firstRound(FencingMeet m, int fencers, int[] order) {
        int first = m.tableBout(order.length, 0);
        for (int i = 0; i < order.length; i++) {
            int position = i;
            Checks.due("position " + i + " of " + order.length, order[i] <= fencers ? order[i] - 1 : -1,
                    () -> m.bout(first + position / 2, position % 2));
        }
    }

    private static void byes() {
        Checks.about("a seed that no fencer has makes the bout a bye, which the other side wins at once, "
                + "without touches");
        int[] byes = {1, 0, 3, 2, 1, 0, 7, 6, 5, 4, 3, 2, 1, 0, 15, 14, 13, 12, 11, 10, 9, 8};
        Checks.row("byes for 3 and", byes, i -> Meets.withTable(i + 3).account(4));
        FencingMeet m = Meets.withTable(7);
        int first = m.tableBout(8, 0);
        Checks.row("the bye", new int[] {0, -1, 0, 0, 4, 0, 108, 15, -1}, what -> m.bout(first, what));
        Checks.row("not a bye", new int[] {3, 4, 0, 0, 0, -1, 108, 15, -1}, what -> m.bout(first + 1, what));
        Checks.due("in the next round at once", 0, () -> m.bout(m.tableBout(4, 0), 0));
        Checks.due("no touches", Meets.fought(7).account(5), () -> m.account(5));
        Checks.due("no victory", 6, () -> m.result(0, 0));
        // both sides of the second bout of the round of 16 come from byes
        FencingMeet most = Meets.withTable(17);
        int next = most.tableBout(16, 1);
        Checks.due("left", 7, () -> most.bout(next, 0));
        Checks.due("right", 8, () -> most.bout(next, 1));
        Checks.due("begins at once", 15, () -> most.begin(next));
        Checks.fails("not where one is to be found", Checks.UNSUPPORTED, () -> most.begin(next - 1));
    }

    private static void nextRounds() {
        Checks.about("Each next round has a bout of the winners of the first and second bout of the round "
                + "before, one of those of the third and fourth, and so on; bouts are numbered round by round.");
        FencingMeet m = Meets.withTable(8);
        Checks.row("round", new int[] {108, 108, 108, 108, 104, 104, 102}, i -> m.bout(28 + i, 6));
        Checks.row("nobody is known, left", new int[] {-1, -1, -1}, i -> m.bout(32 + i, 0));
        Checks.row("nobody is known, right", new int[] {-1, -1, -1}, i -> m.bout(32 + i, 1));
        // 1 8 4 5 2 7 3 6: the winners are 7, 3, 6 and 2, entered from the last one on
        int[][] results = {{31, 15, 3, 2}, {30, 3, 15, 6}, {29, 15, 3, 3}, {28, 3, 15, 7}};
        int[][] places = {{33, 1}, {33, 0}, {32, 1}, {32, 0}};
        for (int i = 0; i < 4; i++) {
            int[] r = results[i];
            int[] p = places[i];
            Checks.due("not known before", -1, () -> m.bout(p[0], p[1]));
            Checks.due("the winner", r[3], () -> m.enter(r[0], r[1], r[2], -1));
            Checks.due("in the next round", r[3], () -> m.bout(p[0], p[1]));
        }
        m.enter(33, 1, 15, -1);
        Checks.due("the right side of the final", 2, () -> m.bout(34, 1));
        Checks.due("the left side is not known", -1, () -> m.bout(34, 0));
        m.enter(32, 1, 15, -1);
        Checks.due("the left side of the final", 3, () -> m.bout(34, 0));
    }

    private static void roundsTold() {
        Checks.about("The round of a bout is told by the number of fencers with whom it begins: the table "
                + "size for the first one, 2 for the final.");
        FencingMeet m = Meets.withTable(24);
        int[] firsts = {276, 292, 300, 304, 306};
        for (int i = 0; i < firsts.length; i++) {
            int round = 32 >> i;
            int first = firsts[i];
            Checks.due("first bout of round " + round, first, () -> m.tableBout(round, 0));
            Checks.due("last bout of round " + round, first + round / 2 - 1, () -> m.tableBout(round, round / 2 - 1));
            Checks.due("told of the first", 100 + round, () -> m.bout(first, 6));
            Checks.due("told of the last", 100 + round, () -> m.bout(first + round / 2 - 1, 6));
            Checks.fails("no more in " + round, Checks.ELEMENT, () -> m.tableBout(round, round / 2));
        }
        for (int round : new int[] {0, 1, 3, 12, 24, 31, 33, 64}) {
            Checks.fails("round " + round, Checks.ELEMENT, () -> m.tableBout(round, 0));
        }
        FencingMeet two = Meets.withFinalAlone();
        Checks.due("first and final", 3, () -> two.tableBout(2, 0));
        Checks.fails("no round of 4", Checks.ELEMENT, () -> two.tableBout(4, 0));
    }

    private static void finalPlaces() {
        Checks.about("When the meet is over, the winner of the final has place 1, and the loser 2; those who "
                + "lost in the round of 4 have the next places, then those of the round of 8, and so on; "
                + "within a round, those with lesser seeds first.");
        // seeds 1 8 4 5 2 7 3 6 are fencers 0 7 3 4 1 6 2 5; the winners are 7 4 1 2, then 4 2, then 2
        FencingMeet m = Meets.withTable(8);
        boolean[] left = {false, false, true, true, false, false, false};
        for (int i = 0; i < 7; i++) {
            Checks.fails("not over before " + i, Checks.STATE, () -> m.finalist(1));
            m.enter(28 + i, left[i] ? 15 : 0, left[i] ? 0 : 15, -1);
        }
        Checks.row("place 1 and", new int[] {2, 4, 1, 7, 0, 3, 5, 6}, i -> m.finalist(i + 1));
        Checks.fails("place 0", Checks.ELEMENT, () -> m.finalist(0));
        Checks.fails("place 9", Checks.ELEMENT, () -> m.finalist(9));
        FencingMeet five = Meets.over(5);
        Checks.row("of five, place 1 and", new int[] {0, 1, 2, 3, 4}, i -> five.finalist(i + 1));
        Checks.fails("of five, place 6", Checks.ELEMENT, () -> five.finalist(6));
        FencingMeet two = Meets.withFinalAlone();
        two.enter(3, 1, 15, -1);
        Checks.row("of two, place 1 and", new int[] {2, 1}, i -> two.finalist(i + 1));
        Checks.fails("of two, the excluded one", Checks.ELEMENT, () -> two.finalist(3));
        FencingMeet most = Meets.over(24);
        Checks.row("of 24, place 1 and", IntStream.range(0, 24).toArray(), i -> most.finalist(i + 1));
    }
}
