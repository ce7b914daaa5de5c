import java.util.List;
import java.util.function.Consumer;
import java.util.function.Supplier;
import java.util.stream.IntStream;

/** Each sentence of the description about fencers, phases and pools, on both sides of its boundaries. */
public final class EntriesTests {
    private EntriesTests() {
    }

    public static void main(String[] args) {
        atMost24Fencers();
        clubsAndStrengths();
        stronger();
        excludedStaysSo();
        phases();
        over();
        rows();
        differentPools();
        fewestOfTheClub();
        directionOfRows();
        numbersOfMembers();
        Checks.end("EntriesTests");
    }

    // ---- fencers and phases ----

    private static void atMost24Fencers() {
        Checks.about("At most 24 fencers are entered, numbered from 0.");
        FencingMeet m = new FencingMeet();
        Checks.row("number", IntStream.range(0, 24).toArray(), i -> m.addFencer(i % 8, 500));
        Checks.due("fencer 23", 7, () -> m.fencer(23, 0));
        Checks.fails("fencer 24", Checks.INDEX, () -> m.fencer(24, 0));
        Checks.fails("the 25th", Checks.STATE, () -> m.addFencer(0, 500));
        Checks.due("are entered", 24, () -> m.meet(1));
        m.undo();
        Checks.due("the 24th again", 23, () -> m.addFencer(0, 500));
        Checks.fails("the 25th again", Checks.STATE, () -> m.addFencer(0, 500));
    }

    private static void clubsAndStrengths() {
        Checks.about("A fencer has a club from 0 to 7 and a strength from 1 to 999");
        FencingMeet m = new FencingMeet();
        int[][] in = {{0, 1}, {7, 1}, {0, 999}, {7, 999}};
        for (int[] pair : in) {
            int fencer = m.addFencer(pair[0], pair[1]);
            Checks.due("club", pair[0], () -> m.fencer(fencer, 0));
            Checks.due("strength", pair[1], () -> m.fencer(fencer, 1));
        }
        for (int[] pair : new int[][] {{-1, 1}, {8, 1}, {0, 0}, {0, 1000}, {7, 0}, {7, 1000}}) {
            Checks.fails(pair[0] + " " + pair[1], Checks.ARGUMENT, () -> m.addFencer(pair[0], pair[1]));
        }
        Checks.due("are entered", 4, () -> m.meet(1));
    }

    private static void stronger() {
        Checks.about("a lesser number is stronger, and of equal ones the fencer with the lower number");
        FencingMeet m = Meets.with(0, 500, 0, 499, 0, 500, 0, 501, 0, 1, 0, 999);
        int[] order = {4, 1, 0, 2, 3, 5};
        Checks.row("ranked", order, m::ranked);
        Checks.due("499 before 500", 4, () -> m.why(1, 0));
        Checks.due("501 behind 500", -4, () -> m.why(3, 2));
        Checks.due("equal, the lower number", 4, () -> m.why(0, 2));
        Checks.due("equal, the greater number", -4, () -> m.why(2, 0));
        m.drawPools(1);
        Checks.row("member", order, i -> m.member(0, i));
    }

    private static void excludedStaysSo() {
        Checks.about("A fencer can be excluded, and stays so.");
        FencingMeet m = Meets.onePool(5);
        m.begin(0);
        Checks.due("before", 0, () -> m.fencer(1, 4));
        m.card(1, 2);
        Checks.due("behind the card", 1, () -> m.fencer(1, 4));
        for (int bout = 0; bout < 10; bout++) {
            if (m.bout(bout, 4) == 0) {
                m.enter(bout, 5, 1, -1);
            }
        }
        m.drawTable();
        Checks.due("in the table", 1, () -> m.fencer(1, 4));
        for (int bout = 10; bout < 13; bout++) {
            m.enter(bout, 15, 1, -1);
        }
        Checks.due("over", 3, () -> m.meet(0));
        Checks.row("at the end", new int[] {0, 1, 0, 0, 0}, f -> m.fencer(f, 4));
    }

    private static void phases() {
        Checks.about("The meet is in phase 0, entries; 1, pools; 2, table; or 3, over.");
        FencingMeet m = Meets.entered(4);
        Checks.due("entries", 0, () -> m.meet(0));
        m.drawPools(1);
        Checks.due("pools", 1, () -> m.meet(0));
        for (int bout = 0; bout < 6; bout++) {
            m.enter(bout, 5, 1, -1);
        }
        Checks.due("still pools", 1, () -> m.meet(0));
        m.drawTable();
        Checks.due("table", 2, () -> m.meet(0));
        m.enter(6, 15, 1, -1);
        m.enter(7, 15, 1, -1);
        Checks.due("still table", 2, () -> m.meet(0));
        m.enter(8, 15, 1, -1);
        Checks.due("over", 3, () -> m.meet(0));
    }

    /** Each way in which a bout can be finished. */
    private static void over() {
        Checks.about("It is over as soon as the final is finished.");
        overBehind("the last touch", m -> Meets.tell(m, 14, 3), m -> m.touch(0));
        overBehind("time with more touches", m -> m.touch(1), FencingMeet::time);
        overBehind("time with priority", FencingMeet::time, FencingMeet::time);
        overBehind("a touch with priority", FencingMeet::time, m -> m.touch(0));
        overBehind("a red card", m -> Meets.tell(m, 0, 14), m -> m.card(0, 1));
        overBehind("a black card", m -> m.touch(0), m -> m.card(1, 2));
        overBehind("a result", FencingMeet::undo, m -> m.enter(m.meet(3) - 1, 3, 4, -1));
        overBehind("a text", m -> {
            m.undo();
            Meets.type(m, m.meet(3) - 1 + "=7:7r;");
        }, FencingMeet::readResults);
    }

    private static void overBehind(String how, Consumer<FencingMeet> before, Consumer<FencingMeet> last) {
        List<Supplier<FencingMeet>> finals = List.of(() -> Meets.beforeFinal(4), () -> Meets.beforeFinal(5),
                Meets::withFinalAlone);
        for (Supplier<FencingMeet> one : finals) {
            FencingMeet m = one.get();
            m.begin(m.meet(3) - 1);
            before.accept(m);
            Checks.due(how + ", before", 2, () -> m.meet(0));
            Checks.fails(how + ", no winner before", Checks.STATE, () -> m.finalist(1));
            last.accept(m);
            Checks.due(how, 3, () -> m.meet(0));
            Checks.due(how + ", the winner", m.bout(m.meet(3) - 1, 5), () -> m.finalist(1));
            m.undo();
            Checks.due(how + ", undone", 2, () -> m.meet(0));
        }
    }

    // ---- pools ----

    private static void rows() {
        Checks.about("go through the fencers from the strongest one on, n at a time; each such group is a "
                + "row, the first one row 0, and the last one can be smaller");
        pools(Meets.drawn(9, 3), new int[][] {{0, 5, 6}, {1, 4, 7}, {2, 3, 8}});
        pools(Meets.drawn(10, 3), new int[][] {{0, 5, 6}, {1, 4, 7}, {2, 3, 8, 9}});
        pools(Meets.drawn(11, 3), new int[][] {{0, 5, 6}, {1, 4, 7, 10}, {2, 3, 8, 9}});
        pools(Meets.drawn(12, 3), new int[][] {{0, 5, 6, 11}, {1, 4, 7, 10}, {2, 3, 8, 9}});
        pools(Meets.drawn(13, 3), new int[][] {{0, 5, 6, 11, 12}, {1, 4, 7, 10}, {2, 3, 8, 9}});
        FencingMeet turned = Meets.with(0, 9, 0, 8, 0, 7, 0, 6, 0, 5, 0, 4);
        turned.drawPools(2);
        pools(turned, new int[][] {{5, 2, 1}, {4, 3, 0}});
        pools(Meets.drawn(24, 6), new int[][] {{0, 11, 12, 23}, {1, 10, 13, 22}, {2, 9, 14, 21}, {3, 8, 15, 20},
            {4, 7, 16, 19}, {5, 6, 17, 18}});
        pools(Meets.drawn(3, 1), new int[][] {{0, 1, 2}});
    }

    private static void pools(FencingMeet m, int[][] want) {
        Checks.due("pools", want.length, () -> m.meet(2));
        for (int pool = 0; pool < want.length; pool++) {
            int p = pool;
            Checks.due("members of " + p, want[p].length, () -> m.members(p));
            Checks.row("pool " + p + " member", want[p], i -> m.member(p, i));
        }
    }

    private static void differentPools() {
        Checks.about("The fencers of a row go to different pools, one after the other");
        // 5, of club 1, goes to pool 1, where 1 is of this club, as 4 of the same row has gone to pool 0
        FencingMeet m = Meets.with(0, 1, 1, 2, 3, 3, 4, 4, 5, 5, 1, 6);
        m.drawPools(2);
        pools(m, new int[][] {{0, 3, 4}, {1, 2, 5}});
    }

    private static void fewestOfTheClub() {
        Checks.about("each one to the pool, of those to which no one of this row has gone yet, with the "
                + "fewest fencers of the same club");
        // row 1: 2 avoids pool 0 for its one of club 0; row 2: 4 goes where there is one of club 0 and not two
        FencingMeet m = Meets.with(0, 1, 1, 2, 0, 3, 0, 4, 0, 5, 1, 6);
        m.drawPools(2);
        pools(m, new int[][] {{0, 3, 5}, {1, 2, 4}});
        // row 1: 3 goes past pool 2, where one of club 2 is; row 2: 6 goes where there is none of club 1, and then 7
        // and 8 have one of their club in each pool that is left
        FencingMeet three = Meets.with(0, 1, 1, 2, 2, 3, 2, 4, 1, 5, 0, 6, 1, 7, 1, 8, 2, 9);
        three.drawPools(3);
        pools(three, new int[][] {{0, 5, 6}, {1, 3, 7}, {2, 4, 8}});
        Checks.due("pairs", 3, three::clubPairs);
    }

    private static void directionOfRows() {
        Checks.about("of several the first one in ascending order in rows with even numbers, and in "
                + "descending order in the others");
        FencingMeet m = Meets.drawn(24, 3);
        int[] pools = {0, 1, 2, 2, 1, 0, 0, 1, 2, 2, 1, 0, 0, 1, 2, 2, 1, 0, 0, 1, 2, 2, 1, 0};
        Checks.row("pool of", pools, f -> m.fencer(f, 2));
        // in row 1, pools 0 and 1 have none of club 2, and pools 0 and 2 then none of club 5: the latter come first
        // in row 2, pool 1 alone has none of club 0, and pools 0 and 2 then one of club 5: the former one comes first
        FencingMeet clubs = Meets.with(0, 1, 1, 2, 2, 3, 2, 4, 5, 5, 5, 6, 0, 7, 5, 8, 0, 9);
        clubs.drawPools(3);
        Checks.row("pool with clubs of", new int[] {0, 1, 2, 1, 2, 0, 1, 0, 2}, f -> clubs.fencer(f, 2));
    }

    private static void numbersOfMembers() {
        Checks.about("The members of a pool are numbered from 0 in the order in which they came.");
        FencingMeet m = Meets.drawn(7, 2);
        int[] numbers = {0, 0, 1, 1, 2, 2, 3};
        Checks.row("number of", numbers, f -> m.fencer(f, 3));
        for (int fencer = 0; fencer < 7; fencer++) {
            int f = fencer;
            Checks.due("member with the number of " + f, f, () -> m.member(m.fencer(f, 2), m.fencer(f, 3)));
        }
    }
}
