import java.util.List;
import java.util.function.Consumer;
import java.util.function.Supplier;

/** Each sentence of the description about changes and exceptions, on both sides of its boundaries. */
public final class ChangesTests {
    private ChangesTests() {
    }

    public static void main(String[] args) {
        whatIsAChange();
        latestEight();
        relayIsKept();
        seedIsKept();
        forgetting();
        notOfAChange();
        orderOfExceptions();
        Checks.end("ChangesTests");
    }

    // ---- changes ----

    private static void whatIsAChange() {
        Checks.about("A change is a successful call of addFencer, drawPools, begin, touch, time, card, enter, "
                + "drawTable, beginRelay or leg; each result that readResults enters is a change like one of "
                + "enter.");
        oneChange("addFencer", () -> Meets.entered(3), m -> m.addFencer(5, 9));
        oneChange("drawPools", () -> Meets.entered(7), m -> m.drawPools(2));
        oneChange("begin", () -> Meets.onePool(4), m -> m.begin(2));
        oneChange("begin in the table", () -> Meets.withTable(5), m -> m.begin(11));
        oneChange("touch", () -> Meets.inPool(1, 2), m -> m.touch(0));
        oneChange("the last touch", () -> Meets.inPool(4, 2), m -> m.touch(0));
        oneChange("the last touch in the table", () -> Meets.inTable(14, 2), m -> m.touch(0));
        oneChange("time", () -> Meets.inPool(1, 2), FencingMeet::time);
        oneChange("time with equal touches", () -> Meets.inPool(2, 2), FencingMeet::time);
        oneChange("time with priority", () -> Meets.withPriority(1, 0), FencingMeet::time);
        oneChange("yellow card", () -> Meets.inPool(1, 2), m -> m.card(0, 0));
        oneChange("red card", () -> Meets.inPool(1, 2), m -> m.card(1, 1));
        oneChange("black card", () -> Meets.inPool(1, 2), m -> m.card(1, 2));
        oneChange("black card in the table", () -> Meets.inTable(1, 2), m -> m.card(1, 2));
        oneChange("enter", () -> Meets.onePool(4), m -> m.enter(3, 1, 2, -1));
        oneChange("enter in the table", () -> Meets.withTable(7), m -> m.enter(22, 1, 2, -1));
        oneChange("enter of the final", () -> Meets.beforeFinal(4), m -> m.enter(8, 1, 2, -1));
        oneChange("drawTable", () -> Meets.fought(5), FencingMeet::drawTable);
        oneChange("beginRelay", () -> Meets.withTable(6), m -> m.beginRelay(0, 1));
        oneChange("beginRelay again", Meets::withRelay, m -> m.beginRelay(0, 1));
        oneChange("leg", Meets::withRelay, m -> m.leg(1, 2));
        oneChange("the last leg", () -> {
            FencingMeet m = Meets.withRelay();
            for (int leg = 1; leg <= 8; leg++) {
                m.leg(1, 1);
            }
            return m;
        }, m -> m.leg(1, 1));
        FencingMeet m = Meets.onePool(4);
        m.setSeed(1);
        Meets.type(m, "0=1:0;3=1:2;4=5:5l;1=1:0;");
        Checks.due("results entered", 2, m::readResults);
        Checks.due("each one is a change", 1, m::undo);
        Checks.row("the first one stands", new int[] {2, 0, 0, 0}, b -> m.bout(b, 4));
        Checks.due("and each one is undone by itself", 0, m::undo);
        Checks.fails("no more", Checks.STATE, m::undo);
        noChange("setSeed", x -> x.setSeed(1));
        noChange("save", FencingMeet::save);
        noChange("append", x -> x.append('1'));
        noChange("a text that enters nothing", x -> {
            Meets.type(x, "0=5:5l;");
            x.readResults();
        });
        noChange("a text with a fault", x -> Checks.answerOf(x::readResults));
        noChange("a refused result", x -> Checks.answerOf(() -> x.enter(0, 9, 9, 9)));
    }

    /** The call alone can be undone, and then the meet is as it was. */
    private static void oneChange(String what, Supplier<FencingMeet> start, Consumer<FencingMeet> call) {
        Supplier<FencingMeet> before = () -> {
            FencingMeet m = start.get();
            m.setSeed(3);
            return m;
        };
        FencingMeet m = before.get();
        call.accept(m);
        Checks.due(what + " is one change", 0, m::undo);
        Checks.fails(what + " is not two", Checks.STATE, m::undo);
        Answers.differ(what, before, () -> Answers.behind(before, call));
        Answers.same(what + " undone", before, () -> Answers.behind(before, x -> {
            call.accept(x);
            x.undo();
        }));
    }

    private static void noChange(String what, Consumer<FencingMeet> call) {
        FencingMeet m = Meets.onePool(3);
        m.setSeed(1);
        call.accept(m);
        Checks.fails(what + " is no change", Checks.STATE, m::undo);
    }

    private static void latestEight() {
        Checks.about("The meet before each of the latest 8 changes is kept, with its seed, and can be undone");
        for (int changes = 0; changes <= 24; changes++) {
            FencingMeet m = Meets.entered(changes);
            int kept = Math.min(8, changes);
            for (int left = kept - 1; left >= 0; left--) {
                int fencers = changes - (kept - left);
                Checks.due("can still be undone", left, m::undo);
                Checks.due("fencers then", fencers, () -> m.meet(1));
            }
            Checks.fails("no more behind " + changes, Checks.STATE, m::undo);
        }
        // undone ones make room: 10 changes, 3 undone, 2 more; 7 are kept
        FencingMeet m = Meets.entered(10);
        m.undo();
        m.undo();
        m.undo();
        m.addFencer(7, 7);
        m.addFencer(7, 8);
        Checks.due("seven are kept", 6, m::undo);
        Checks.due("the one before", 7, () -> m.fencer(7, 0));
        for (int left = 5; left >= 0; left--) {
            Checks.due("left " + left, left, m::undo);
        }
        Checks.fails("eight are not", Checks.STATE, m::undo);
        Checks.due("fencers at the end", 2, () -> m.meet(1));
    }

    private static void relayIsKept() {
        Checks.about("The meet before each of the latest 8 changes is kept");
        for (int side = 0; side <= 1; side++) {
            int s = side;
            List<Consumer<FencingMeet>> backs = List.of(FencingMeet::undo, FencingMeet::restore);
            for (Consumer<FencingMeet> back : backs) {
                FencingMeet m = Meets.withRelay();
                for (int leg = 1; leg <= 8; leg++) {
                    m.leg(2, 2);
                }
                m.save();
                m.beginRelay(0, 1);
                Checks.due("the other one", 0, () -> m.relay(0));
                back.accept(m);
                Checks.due("the legs of the one before", 8, () -> m.relay(0));
                Checks.due("the last leg", 0, () -> m.leg(1 - s, s));
                Checks.due("its club wins", 1 - s, () -> m.relay(3));
            }
        }
    }

    private static void seedIsKept() {
        Checks.about("The meet before each of the latest 8 changes is kept, with its seed");
        FencingMeet m = Meets.inPool(0, 0);
        m.setSeed(1);
        m.time();
        m.undo();
        Checks.due("behind undo", 1, () -> m.setSeed(1));
        FencingMeet twice = Meets.onePool(4);
        twice.setSeed(5);
        twice.begin(0);
        twice.time();
        twice.time();
        twice.begin(1);
        twice.time();
        for (int i = 0; i < 3; i++) {
            twice.undo();
        }
        Checks.due("between the two", Draws.behind(5), () -> twice.setSeed(0));
        FencingMeet again = Meets.inPool(0, 0);
        again.setSeed(77);
        again.time();
        int side = again.bout(0, 8);
        again.undo();
        again.time();
        Checks.due("drawn again", side, () -> again.bout(0, 8));
        FencingMeet saved = Meets.inPool(0, 0);
        saved.setSeed(8);
        saved.save();
        saved.time();
        saved.restore();
        Checks.due("behind restore", 8, () -> saved.setSeed(0));
        saved.restore();
        Checks.due("behind restore again", 8, () -> saved.setSeed(0));
    }

    private static void forgetting() {
        Checks.about("restore and setSeed, also with the same seed, forget them");
        FencingMeet m = Meets.entered(5);
        m.setSeed(1);
        Checks.fails("the same seed", Checks.STATE, m::undo);
        m.addFencer(0, 9);
        m.setSeed(2);
        Checks.fails("another seed", Checks.STATE, m::undo);
        m.addFencer(0, 9);
        Checks.fails("no seed", Checks.ARGUMENT, () -> m.setSeed(-1));
        Checks.due("forgets nothing", 0, m::undo);
        m.addFencer(0, 9);
        Checks.fails("no snapshot", Checks.STATE, m::restore);
        Checks.due("forgets nothing either", 0, m::undo);
        m.addFencer(0, 9);
        m.save();
        m.addFencer(0, 9);
        Checks.due("save forgets nothing", 1, m::undo);
        m.restore();
        Checks.fails("restore", Checks.STATE, m::undo);
        m.addFencer(0, 9);
        Checks.due("changes behind it are kept", 0, m::undo);
        for (int i = 0; i < 9; i++) {
            m.addFencer(0, 9);
        }
        m.setSeed(3);
        m.addFencer(0, 9);
        m.addFencer(0, 9);
        Checks.due("two behind eight that are forgotten", 1, m::undo);
        Checks.due("one", 0, m::undo);
        Checks.fails("none", Checks.STATE, m::undo);
    }

    private static void notOfAChange() {
        Checks.about("The text buffer, the fault position and the reason that is kept do not belong to it.");
        List<Consumer<FencingMeet>> backs = List.of(FencingMeet::undo, FencingMeet::restore, x -> x.setSeed(2));
        for (Consumer<FencingMeet> back : backs) {
            FencingMeet m = Meets.onePool(4);
            m.save();
            m.enter(0, 5, 1, -1);
            Checks.answerOf(() -> m.enter(1, 5, 5, 0));
            Meets.type(m, "1=1x");
            Checks.answerOf(m::readResults);
            Meets.type(m, "2=1:0;");
            back.accept(m);
            Checks.due("the reason", 5, m::refusal);
            Checks.due("the fault position", 3, m::faultPosition);
            Checks.due("the buffer", 1, m::readResults);
            Checks.due("what was in it", 2, () -> m.bout(2, 4));
            Checks.due("no fault then", -1, m::faultPosition);
            back.accept(m);
            Checks.fails("the buffer stays empty", Checks.ARGUMENT, m::readResults);
        }
    }

    // ---- exceptions ----

    private static void orderOfExceptions() {
        Checks.about("If several conditions of a method are fulfilled, the one that is listed first "
                + "determines the exception.");
        FencingMeet full = Meets.entered(24);
        Checks.fails("addFencer", Checks.ARGUMENT, () -> full.addFencer(8, 1));
        Checks.fails("drawPools", Checks.ARGUMENT, () -> Meets.onePool(3).drawPools(0));
        FencingMeet m = new FencingMeet();
        Checks.fails("fencer", Checks.INDEX, () -> m.fencer(0, 8));
        Checks.fails("member", Checks.INDEX, () -> m.member(0, -1));
        Checks.fails("bout", Checks.INDEX, () -> m.bout(0, 9));
        Checks.fails("poolBout", Checks.INDEX, () -> m.poolBout(0, 0));
        Checks.fails("begin", Checks.INDEX, () -> Meets.inPool(0, 0).begin(6));
        Checks.fails("touch", Checks.ARGUMENT, () -> m.touch(3));
        Checks.fails("card", Checks.ARGUMENT, () -> m.card(2, 0));
        Checks.fails("enter", Checks.INDEX, () -> Meets.inPool(0, 0).enter(6, 9, 9, 9));
        Checks.fails("result", Checks.INDEX, () -> m.result(0, 5));
        Checks.fails("ratio", Checks.INDEX, () -> m.ratio(0));
        Checks.fails("place", Checks.INDEX, () -> m.place(0));
        Checks.fails("why", Checks.INDEX, () -> m.why(0, 0));
        FencingMeet excluded = Meets.onePool(3);
        excluded.begin(0);
        excluded.card(0, 2);
        Checks.fails("why of an excluded one", Checks.INDEX, () -> excluded.why(0, 3));
        Checks.fails("seeded", Checks.STATE, () -> m.seeded(0));
        Checks.fails("tableBout", Checks.STATE, () -> m.tableBout(3, -1));
        Checks.fails("finalist", Checks.STATE, () -> m.finalist(0));
        Checks.fails("toGo without a table", Checks.INDEX, () -> m.toGo(0));
        Checks.fails("toGo of an excluded one", Checks.STATE, () -> excluded.toGo(0));
        Checks.fails("beginRelay", Checks.ARGUMENT, () -> m.beginRelay(0, 0));
        Checks.fails("leg", Checks.STATE, () -> m.leg(-1, 0));
        Checks.fails("relay", Checks.ELEMENT, () -> m.relay(7));
        FencingMeet late = Meets.withTable(3);
        Checks.fails("toGo in the table", Checks.INDEX, () -> late.toGo(3));
        Checks.fails("beginRelay in the table", Checks.ARGUMENT, () -> late.beginRelay(0, 8));
    }
}
