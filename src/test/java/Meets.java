/** The meets that the tests start from, each made with so few calls that some of the 512 are left. */
final class Meets {
    private Meets() {
    }

    /** Fencers by pairs of club and strength. */
    static FencingMeet with(int... clubsAndStrengths) {
        FencingMeet m = new FencingMeet();
        for (int i = 0; i < clubsAndStrengths.length; i += 2) {
            m.addFencer(clubsAndStrengths[i], clubsAndStrengths[i + 1]);
        }
        return m;
    }

    /** As many fencers of two clubs by turns, fencer 0 the strongest. */
    static FencingMeet entered(int fencers) {
        FencingMeet m = new FencingMeet();
        for (int i = 0; i < fencers; i++) {
            m.addFencer(i % 2, i + 1);
        }
        return m;
    }

    /** As many fencers of club 0 in as many pools, fencer 0 the strongest. */
    static FencingMeet drawn(int fencers, int pools) {
        FencingMeet m = new FencingMeet();
        for (int i = 0; i < fencers; i++) {
            m.addFencer(0, i + 1);
        }
        m.drawPools(pools);
        return m;
    }

    /** One pool of as many fencers, fencer 0 the strongest, all of club 0. */
    static FencingMeet onePool(int fencers) {
        return drawn(fencers, 1);
    }

    /** One pool of two clubs by turns, in which the left side, the stronger one, won each bout. */
    static FencingMeet fought(int fencers) {
        FencingMeet m = entered(fencers);
        int bouts = m.drawPools(1);
        for (int bout = 0; bout < bouts; bout++) {
            m.enter(bout, 5, 1, -1);
        }
        return m;
    }

    /** A table in which fencer i has the seed i + 1. */
    static FencingMeet withTable(int fencers) {
        FencingMeet m = fought(fencers);
        m.drawTable();
        return m;
    }

    /** A table of two fencers, 1 and 2, whose final is bout 3. */
    static FencingMeet withFinalAlone() {
        FencingMeet m = onePool(3);
        m.begin(0);
        m.card(0, 2);
        m.enter(2, 5, 1, -1);
        m.drawTable();
        return m;
    }

    /** A table in which the left side won each bout but the final, the last bout, which is to come. */
    static FencingMeet beforeFinal(int fencers) {
        FencingMeet m = withTable(fencers);
        int last = m.meet(3) - 1;
        for (int bout = m.tableBout(m.meet(5), 0); bout < last; bout++) {
            if (m.bout(bout, 4) == 0) {
                m.enter(bout, 15, 2, -1);
            }
        }
        return m;
    }

    /** A meet in which fencer 0 has won the final. */
    static FencingMeet over(int fencers) {
        FencingMeet m = beforeFinal(fencers);
        m.enter(m.meet(3) - 1, 15, 2, -1);
        return m;
    }

    /** Touches in the bout in progress, by turns as long as both sides have some. */
    static void tell(FencingMeet m, int left, int right) {
        for (int i = 0; i < Math.max(left, right); i++) {
            if (i < left) {
                m.touch(0);
            }
            if (i < right) {
                m.touch(1);
            }
        }
    }

    /** A bout of a pool, bout 0, in progress with these touches. */
    static FencingMeet inPool(int left, int right) {
        FencingMeet m = onePool(4);
        m.begin(0);
        tell(m, left, right);
        return m;
    }

    /** A bout of the table, bout 6, in progress with these touches. */
    static FencingMeet inTable(int left, int right) {
        FencingMeet m = withTable(4);
        m.begin(6);
        tell(m, left, right);
        return m;
    }

    static FencingMeet withPriority(int side, int each) {
        FencingMeet m = inPool(each, each);
        m.setSeed(Draws.seedBefore(65536L * side));
        m.time();
        Checks.due("priority drawn", side, () -> m.bout(0, 8));
        return m;
    }

    static FencingMeet withRelay() {
        FencingMeet m = withTable(8);
        m.beginRelay(1, 0);
        return m;
    }

    static void type(FencingMeet m, String text) {
        for (char c : text.toCharArray()) {
            m.append(c);
        }
    }
}
