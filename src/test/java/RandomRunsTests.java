import java.lang.reflect.InvocationTargetException;
import java.lang.reflect.Method;
import java.util.ArrayList;
import java.util.Arrays;
import java.util.HashMap;
import java.util.List;
import java.util.Map;

/** Makes the same calls of the class and of the oracle, in runs that a counter determines, and compares the answers. */
public final class RandomRunsTests {
    private static final int RUNS = 6000;
    // behind an object's 512th call nothing is promised; a step makes some 90 calls at most, the undoing at the end 17
    private static final int MOST_CALLS = 512;
    private static final int CALLS = 400;
    private static final int CALLS_WITH_QUESTIONS = 490;
    private static final int[] ODD = {Integer.MIN_VALUE, -1, 0, 1, 2, 3, 5, 6, 7, 8, 9, 16, 32, 100, 306, 307, 1000,
        Integer.MAX_VALUE};
    private static final Map<String, Method> OF_CLASS = methods(FencingMeet.class);
    private static final Map<String, Method> OF_ORACLE = methods(Oracle.class);
    private static final List<String> QUERIES = List.of("fencer", "meet", "members", "member", "clubPairs", "bout",
            "current", "poolBout", "refusal", "result", "ratio", "ranked", "place", "why", "seeded", "tableBout",
            "finalist", "toGo", "relay", "account", "faultPosition");

    private final Draws draws;
    private final FencingMeet meet = new FencingMeet();
    private final Oracle oracle = new Oracle();
    private final List<String> log = new ArrayList<>();
    private final int clubs;
    private boolean differs = false;

    /** Numbers that look random and are the same each time. */
    private static final class Draws {
        private long z;

        Draws(long seed) {
            z = seed * 7919 + 17;
        }

        int below(int limit) {
            z = z * 6364136223846793005L + 1442695040888963407L;
            return (int) ((z >>> 33) % limit);
        }

        boolean oneIn(int n) {
            return below(n) == 0;
        }
    }

    private RandomRunsTests(int run) {
        draws = new Draws(run);
        clubs = draws.oneIn(3) ? 1 + draws.below(8) : 2;
    }

    private static Map<String, Method> methods(Class<?> type) {
        Map<String, Method> all = new HashMap<>();
        for (Method method : type.getDeclaredMethods()) {
            if (java.lang.reflect.Modifier.isPublic(method.getModifiers())) {
                method.setAccessible(true);
                all.put(method.getName(), method);
            }
        }
        return all;
    }

    private static String answer(Method method, Object target, Object... arguments) {
        try {
            return String.valueOf(method.invoke(target, arguments));
        } catch (InvocationTargetException e) {
            return e.getCause().getClass().getName();
        } catch (IllegalAccessException e) {
            throw new IllegalStateException(e);
        }
    }

    private String call(String name, Object... arguments) {
        String got = answer(OF_CLASS.get(name), meet, arguments);
        String want = answer(OF_ORACLE.get(name), oracle, arguments);
        log.add(name + Arrays.toString(arguments) + " -> " + want);
        if (!got.equals(want)) {
            differs = true;
            log.add("  ANSWERED " + got);
        }
        return want;
    }

    private Integer odd() {
        return ODD[draws.below(ODD.length)];
    }

    private Integer near(int size) {
        return draws.oneIn(12) ? odd() : draws.below(size + 2) - (draws.oneIn(4) ? 1 : 0);
    }

    private void query() {
        String name = QUERIES.get(draws.below(QUERIES.size()));
        int fencers = oracle.s.fencers.size();
        switch (name) {
            case "clubPairs", "current", "refusal", "faultPosition" -> call(name);
            case "meet" -> call(name, near(6));
            case "members" -> call(name, near(oracle.s.pools.size()));
            case "member" -> call(name, near(oracle.s.pools.size()), near(5));
            case "fencer", "result" -> call(name, near(fencers), near(8));
            case "bout" -> call(name, near(oracle.s.bouts.size()), near(9));
            case "poolBout", "why" -> call(name, near(fencers), near(fencers));
            case "seeded", "finalist" -> call(name, near(oracle.s.seeds.size()));
            case "tableBout" -> call(name, draws.oneIn(5) ? odd() : 1 << draws.below(7), near(8));
            case "relay" -> call(name, near(7));
            case "account" -> call(name, near(9));
            default -> call(name, near(fencers));
        }
    }

    private void addSome(int count) {
        for (int i = 0; i < count; i++) {
            call("addFencer", draws.below(clubs), 1 + draws.below(draws.oneIn(2) ? 6 : 999));
        }
    }

    private int boutToCome() {
        List<Integer> open = new ArrayList<>();
        for (int b = 0; b < oracle.s.bouts.size(); b++) {
            Oracle.Bout x = oracle.s.bouts.get(b);
            if (x.state == 0 && x.fencers[0] >= 0 && x.fencers[1] >= 0) {
                open.add(b);
            }
        }
        return open.isEmpty() || draws.oneIn(15) ? near(oracle.s.bouts.size()) : open.get(draws.below(open.size()));
    }

    private int targetOf(int bout) {
        boolean exists = bout >= 0 && bout < oracle.s.bouts.size();
        return exists ? oracle.s.bouts.get(bout).target() : 5;
    }

    private void enterOne() {
        int bout = boutToCome();
        int target = targetOf(bout);
        int left = draws.oneIn(10) ? near(target) : draws.oneIn(2) ? target : draws.below(target);
        int right = draws.oneIn(10) ? near(target) : draws.below(target);
        int winner = draws.oneIn(15) ? odd() : left == right ? draws.below(2) : -1;
        call("enter", bout, left, right, winner);
    }

    private void fight() {
        call("begin", boutToCome());
        int most = 1 + draws.below(30);
        for (int i = 0; i < most && oracle.currentOrNone() >= 0; i++) {
            int kind = draws.below(20);
            if (kind < 12) {
                call("touch", draws.oneIn(20) ? odd() : Integer.valueOf(draws.below(2)));
            } else if (kind < 15) {
                call("touch", 2);
            } else if (kind < 17) {
                call("time");
            } else {
                call("card", draws.oneIn(20) ? odd() : Integer.valueOf(draws.below(2)), cardKind());
            }
            if (draws.oneIn(4)) {
                call("bout", Math.max(0, oracle.currentOrNone()), draws.below(9));
            }
        }
    }

    private Integer cardKind() {
        return draws.oneIn(20) ? odd() : Integer.valueOf(draws.oneIn(8) ? 2 : draws.below(2));
    }

    private void type() {
        StringBuilder text = new StringBuilder();
        int results = 1 + draws.below(8);
        for (int i = 0; i < results; i++) {
            int bout = boutToCome();
            int target = targetOf(bout);
            int left = draws.oneIn(3) ? target : draws.below(target + 1);
            int right = draws.below(target);
            text.append(draws.oneIn(6) ? "0" : "").append(Math.abs(bout % 1000)).append('=').append(left).append(':');
            text.append(draws.oneIn(6) ? "0" : "").append(right);
            text.append(left == right ? draws.oneIn(2) ? "l" : "r" : "").append(';');
        }
        if (draws.oneIn(3)) {
            text.setCharAt(draws.below(text.length()), "0123456789=:lr;x/<".charAt(draws.below(18)));
        }
        if (draws.oneIn(6)) {
            text.setLength(draws.below(text.length() + 1));
        }
        for (char c : text.toString().toCharArray()) {
            call("append", c);
        }
        call("readResults");
        call("faultPosition");
    }

    private void relayCall() {
        if (oracle.s.team == null || draws.oneIn(25)) {
            call("beginRelay", draws.oneIn(15) ? odd() : Integer.valueOf(draws.below(clubs)),
                    draws.oneIn(15) ? odd() : Integer.valueOf(draws.below(clubs)));
        } else if (draws.oneIn(12)) {
            call("leg", odd(), odd());
        } else {
            int limit = 5 * (oracle.s.team.legs.size() + 1);
            int same = draws.below(6);
            boolean level = draws.oneIn(2);
            call("leg", level ? Math.max(0, limit - 5 - oracle.s.team.total(0) + same) : draws.below(limit + 2),
                    level ? Math.max(0, limit - 5 - oracle.s.team.total(1) + same) : draws.below(limit + 2));
        }
        call("relay", draws.below(7));
    }

    private void rare() {
        switch (draws.below(7)) {
            case 0 -> call("save");
            case 1 -> call(draws.oneIn(2) ? "restore" : "save");
            case 2 -> call("setSeed", draws.oneIn(4) ? odd() : Integer.valueOf(draws.below(Integer.MAX_VALUE)));
            case 3 -> addSome(1);
            case 4 -> call("drawPools", near(6));
            case 5 -> call("addFencer", odd(), odd());
            default -> call("drawTable");
        }
    }

    private void step() {
        int kind = draws.below(100);
        if (kind < 25) {
            query();
        } else if (kind < 27) {
            rare();
        } else if (kind < 30) {
            for (int i = draws.below(draws.oneIn(6) ? 11 : 2); i >= 0; i--) {
                call("undo");
            }
        } else if (kind < 55) {
            relayCallOrEnter();
        } else if (kind < 80) {
            enterOne();
        } else if (kind < 90) {
            fight();
        } else if (kind < 94) {
            type();
        } else {
            call(oracle.s.phase == 0 ? "drawPools" : "drawTable",
                    oracle.s.phase == 0 ? new Object[] {1 + draws.below(6)} : new Object[0]);
        }
    }

    private void relayCallOrEnter() {
        if (oracle.s.phase >= 2) {
            for (int i = draws.below(6); i >= 0; i--) {
                relayCall();
            }
        } else {
            enterOne();
        }
    }

    /** Questions at the end of a run, each about one that is there or next to it. */
    private void askSome() {
        while (log.size() < CALLS_WITH_QUESTIONS && !differs) {
            if (draws.oneIn(3)) {
                call("bout", draws.below(oracle.s.bouts.size() + 2) - 1, draws.below(9));
            } else {
                query();
            }
        }
    }

    private boolean agrees() {
        if (draws.oneIn(2)) {
            call("setSeed", draws.below(Integer.MAX_VALUE));
        }
        addSome(draws.oneIn(10) ? 25 : 3 + draws.below(15));
        call("drawPools", 1 + draws.below(draws.oneIn(4) ? 6 : Math.max(1, Math.min(6, oracle.s.fencers.size() / 3))));
        while (log.size() < CALLS && !differs) {
            step();
        }
        askSome();
        while (!differs && !call("undo").contains("Exception")) {
            call("account", 0);
        }
        return !differs && log.size() <= MOST_CALLS;
    }

    public static void main(String[] args) {
        int runs = args.length > 0 ? Integer.parseInt(args[0]) : RUNS;
        int wrong = 0;
        int[] phases = new int[4];
        int relays = 0;
        for (int run = 0; run < runs && wrong < 3; run++) {
            RandomRunsTests one = new RandomRunsTests(run);
            if (!one.agrees()) {
                wrong++;
                System.out.println("run " + run + " differs:");
                one.log.forEach(line -> System.out.println("  " + line));
            }
            phases[one.oracle.s.phase]++;
            relays += one.oracle.s.team != null && one.oracle.s.team.winner >= 0 ? 1 : 0;
        }
        System.out.println("RandomRunsTests: " + runs + " runs, " + wrong + " wrong; ended in phases "
                + Arrays.toString(phases) + ", relays decided " + relays);
        System.exit(wrong == 0 ? 0 : 1);
    }
}
