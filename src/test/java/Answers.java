import java.util.ArrayList;
import java.util.List;
import java.util.function.Consumer;
import java.util.function.Function;
import java.util.function.Supplier;

/**
 * Tells whether two meets are in the same state, by all that can be asked of them and by what they answer when they
 * go on. Nothing is promised behind the 512th call, so each part of the questions is put to two meets made anew.
 */
final class Answers {
    private static final int AT_ONCE = 90;

    /** A question or a call, and its name. */
    private record Question(String name, Function<FencingMeet, Object> put) {
        String answer(FencingMeet m) {
            return String.valueOf(Checks.answerOf(() -> put.apply(m)));
        }
    }

    private Answers() {
    }

    /** Checks that a call leaves the state as it is, whether it throws or not, but for the answer to one question. */
    static void unchanged(String what, String but, Supplier<FencingMeet> start, Consumer<FencingMeet> call) {
        same(what, but, () -> behindRefused(start, call), start);
    }

    static void unchanged(String what, Supplier<FencingMeet> start, Consumer<FencingMeet> call) {
        unchanged(what, "", start, call);
    }

    static void same(String what, String but, Supplier<FencingMeet> got, Supplier<FencingMeet> want) {
        Checks.due(what + ": the same state", "", () -> difference(but, got, want));
    }

    static void same(String what, Supplier<FencingMeet> got, Supplier<FencingMeet> want) {
        same(what, "", got, want);
    }

    static void differ(String what, Supplier<FencingMeet> one, Supplier<FencingMeet> other) {
        Checks.isTrue(what + ": another state", !difference("", one, other).isEmpty());
    }

    /** Checks that no question changes anything. */
    static void unchangedByQuestions(String what, Supplier<FencingMeet> start) {
        List<Question> all = questions(start.get());
        for (int from = 0; from < all.size(); from += AT_ONCE) {
            List<Question> some = all.subList(from, Math.min(all.size(), from + AT_ONCE));
            unchanged(what + " from question " + from, start, m -> some.forEach(question -> question.answer(m)));
        }
    }

    static FencingMeet behind(Supplier<FencingMeet> start, Consumer<FencingMeet> call) {
        FencingMeet m = start.get();
        call.accept(m);
        return m;
    }

    /** The meet behind a call, whether this throws or not. */
    static FencingMeet behindRefused(Supplier<FencingMeet> start, Consumer<FencingMeet> call) {
        FencingMeet m = start.get();
        Checks.answerOf(() -> {
            call.accept(m);
            return 0;
        });
        return m;
    }

    /** The first answer in which they differ, empty if there is none. */
    private static String difference(String but, Supplier<FencingMeet> got, Supplier<FencingMeet> want) {
        List<Question> all = questions(want.get());
        for (int from = 0; from < all.size(); from += AT_ONCE) {
            List<Question> some = all.subList(from, Math.min(all.size(), from + AT_ONCE));
            String found = compare(but, got.get(), want.get(), some);
            if (!found.isEmpty()) {
                return found;
            }
        }
        for (List<Question> run : runs()) {
            String found = compare(but, got.get(), want.get(), run);
            if (!found.isEmpty()) {
                return found;
            }
        }
        return "";
    }

    private static String compare(String but, FencingMeet got, FencingMeet want, List<Question> questions) {
        for (Question question : questions) {
            String due = question.answer(want);
            String answer = question.answer(got);
            if (!due.equals(answer) && !question.name().equals(but)) {
                return question.name() + " answers " + answer + " and not " + due;
            }
        }
        return "";
    }

    private static void add(List<Question> all, String name, Function<FencingMeet, Object> put) {
        all.add(new Question(name, put));
    }

    private static void addCall(List<Question> all, String name, Consumer<FencingMeet> call) {
        add(all, name, m -> {
            call.accept(m);
            return "nothing thrown";
        });
    }

    /** All that can be asked of a meet with as many fencers, pools and bouts. */
    private static List<Question> questions(FencingMeet like) {
        List<Question> all = new ArrayList<>(summary());
        add(all, "clubPairs", FencingMeet::clubPairs);
        add(all, "refusal", FencingMeet::refusal);
        add(all, "faultPosition", FencingMeet::faultPosition);
        ofFencers(all, like.meet(1));
        ofPools(all, like.meet(2));
        for (int bout = 0; bout <= like.meet(3); bout++) {
            for (int what = 0; what <= 8; what++) {
                int b = bout;
                int w = what;
                add(all, "bout " + b + " " + w, m -> m.bout(b, w));
            }
        }
        for (int round = 2; round <= like.meet(5); round *= 2) {
            int r = round;
            add(all, "tableBout " + r, m -> m.tableBout(r, 0));
        }
        return all;
    }

    private static void ofFencers(List<Question> all, int fencers) {
        for (int fencer = 0; fencer <= fencers; fencer++) {
            int f = fencer;
            for (int what = 0; what <= 7; what++) {
                int w = what;
                add(all, "fencer " + f + " " + w, m -> m.fencer(f, w));
                add(all, "result " + f + " " + w, m -> m.result(f, w));
            }
            add(all, "ratio " + f, m -> m.ratio(f));
            add(all, "ranked " + f, m -> m.ranked(f));
            add(all, "place " + f, m -> m.place(f));
            add(all, "seeded " + f, m -> m.seeded(f));
            add(all, "finalist " + f, m -> m.finalist(f));
            add(all, "toGo " + f, m -> m.toGo(f));
            for (int other = 0; other < fencers; other++) {
                int o = other;
                add(all, "why " + f + " " + o, m -> m.why(f, o));
                add(all, "poolBout " + f + " " + o, m -> m.poolBout(f, o));
            }
        }
    }

    private static void ofPools(List<Question> all, int pools) {
        for (int pool = 0; pool <= pools; pool++) {
            int p = pool;
            add(all, "members " + p, m -> m.members(p));
            for (int index = 0; index <= 8; index++) {
                int i = index;
                add(all, "member " + p + " " + i, m -> m.member(p, i));
            }
        }
    }

    private static List<Question> summary() {
        List<Question> all = new ArrayList<>();
        for (int what = 0; what <= 8; what++) {
            int w = what;
            add(all, "meet " + w, m -> m.meet(w));
            add(all, "account " + w, m -> m.account(w));
            add(all, "relay " + w, m -> m.relay(w));
        }
        add(all, "current", FencingMeet::current);
        return all;
    }

    /** What cannot be asked shows in how the meet goes on. */
    private static List<List<Question>> runs() {
        return List.of(undoing(), readingOn(), fillingBuffer(), restoring(), goingOn(0), goingOn(1), beginning());
    }

    private static void undoAndPoints(List<Question> run) {
        add(run, "undo", FencingMeet::undo);
        for (int what : new int[] {0, 2, 5, 7}) {
            add(run, "account " + what, m -> m.account(what));
        }
        add(run, "fencers", m -> m.meet(1));
        add(run, "phase", m -> m.meet(0));
        add(run, "legs", m -> m.relay(0));
    }

    private static List<Question> undoing() {
        List<Question> run = new ArrayList<>();
        for (int i = 0; i < 9; i++) {
            undoAndPoints(run);
        }
        add(run, "seed behind undo", m -> m.setSeed(0));
        return run;
    }

    private static List<Question> readingOn() {
        List<Question> run = new ArrayList<>();
        add(run, "readResults", FencingMeet::readResults);
        add(run, "faultPosition of it", FencingMeet::faultPosition);
        add(run, "refusal", FencingMeet::refusal);
        run.addAll(summary());
        add(run, "readResults again", FencingMeet::readResults);
        return run;
    }

    private static List<Question> fillingBuffer() {
        List<Question> run = new ArrayList<>();
        for (int i = 0; i < 61; i++) {
            addCall(run, "append " + i, m -> m.append('0'));
        }
        add(run, "readResults of all", FencingMeet::readResults);
        add(run, "faultPosition of all", FencingMeet::faultPosition);
        return run;
    }

    private static List<Question> restoring() {
        List<Question> run = new ArrayList<>();
        add(run, "seed", m -> m.setSeed(77));
        addCall(run, "restore", FencingMeet::restore);
        run.addAll(summary());
        add(run, "seed restored", m -> m.setSeed(78));
        addCall(run, "restore again", FencingMeet::restore);
        add(run, "seed restored again", m -> m.setSeed(79));
        return run;
    }

    /** Cards tell which ones were shown, and time and legs which numbers are drawn. */
    private static List<Question> goingOn(int side) {
        List<Question> run = new ArrayList<>();
        add(run, "yellow card " + side, m -> m.card(side, 0));
        add(run, "undo of it", FencingMeet::undo);
        add(run, "double touch", m -> m.touch(2));
        add(run, "time", FencingMeet::time);
        add(run, "touch " + side, m -> m.touch(side));
        add(run, "leg", m -> m.leg(1, 1));
        for (int leg = 0; leg < 9; leg++) {
            add(run, "leg " + leg, m -> m.leg(0, 0));
        }
        run.addAll(summary());
        add(run, "seed then", m -> m.setSeed(0));
        return run;
    }

    private static List<Question> beginning() {
        List<Question> run = new ArrayList<>();
        add(run, "addFencer", m -> m.addFencer(3, 333));
        add(run, "drawPools", m -> m.drawPools(1));
        add(run, "drawTable", FencingMeet::drawTable);
        for (int bout = 0; bout < 40; bout++) {
            int b = bout;
            add(run, "enter " + b, m -> m.enter(b, 1, 0, -1));
        }
        run.addAll(summary());
        return run;
    }
}
