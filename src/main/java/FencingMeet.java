import java.util.NoSuchElementException;

/** A fencing meet, from the entries through pools and table to the final places, with relays beside it. */
public final class FencingMeet {
    private static final int NONE = -1;

    private static final int MOST_FENCERS = 24;
    private static final int CLUBS = 8;
    private static final int GREATEST_STRENGTH = 999;
    private static final int MOST_POOLS = 6;
    private static final int LEAST_IN_POOL = 3;
    private static final int GREATEST_TABLE = 32;
    private static final int MOST_BOUTS = MOST_FENCERS * (MOST_FENCERS - 1) / 2 + GREATEST_TABLE - 1;

    private static final int ENTRIES = 0;
    private static final int POOLS = 1;
    private static final int TABLE = 2;
    private static final int OVER = 3;

    private static final int TO_COME = 0;
    private static final int IN_PROGRESS = 1;
    private static final int FINISHED = 2;
    private static final int ANNULLED = 3;
    private static final int BYE = 4;

    private static final int LEFT = 0;
    private static final int RIGHT = 1;
    private static final int BOTH = 2;

    private static final int YELLOW = 0;
    private static final int RED = 1;
    private static final int BLACK = 2;
    private static final int KINDS = 3;

    private static final int POOL_TARGET = 5;
    private static final int TABLE_TARGET = 15;
    private static final int TABLE_HOME = 100;
    private static final int FINAL = 2;

    private static final int LEGS = 9;
    private static final int LEG_TOUCHES = 5;
    private static final int TEAM = 3;
    private static final int[] FIRST_IN_LEG = {3, 1, 2, 1, 3, 2, 1, 2, 3};
    private static final int[] OTHER_IN_LEG = {6, 5, 4, 6, 4, 5, 4, 6, 5};

    private static final int MOST_SIGNS = 60;
    private static final int SHORTEST_RESULT = 6;
    private static final int PARTS = 4;
    private static final int BOUT_PART = 0;
    private static final int LEFT_PART = 1;
    private static final int RIGHT_PART = 2;
    private static final int WINNER_PART = 3;
    private static final int MOST_KEPT = 8;

    private final Meet now = new Meet();
    private final Meet saved = new Meet();
    private boolean isSaved = false;
    private final History history = new History();
    private final Standing standing = new Standing();
    private final ResultText text = new ResultText();
    private int reason = 0;

    public FencingMeet() {
    }

    // ---- fencers and pools ----

    public int addFencer(int club, int strength) throws IllegalArgumentException, IllegalStateException {
        if (!isClub(club) || strength < 1 || strength > GREATEST_STRENGTH) {
            throw new IllegalArgumentException("the club or the strength is out of range");
        }
        if (now.phase != ENTRIES || now.roster.count >= MOST_FENCERS) {
            throw new IllegalStateException("no fencer can be entered");
        }
        history.keep(now);
        return now.roster.add(club, strength);
    }

    public int drawPools(int pools) throws IllegalArgumentException, IllegalStateException {
        if (pools < 1 || pools > MOST_POOLS) {
            throw new IllegalArgumentException("the number of pools is out of range");
        }
        if (now.phase != ENTRIES || now.roster.count < pools * LEAST_IN_POOL) {
            throw new IllegalStateException("the pools cannot be drawn");
        }
        history.keep(now);
        // without bouts the ranking is that by strength
        standing.rankAll(now);
        now.fillPools(pools, standing.order);
        return now.bouts.count;
    }

    public int setSeed(int seed) throws IllegalArgumentException {
        if (seed < 0) {
            throw new IllegalArgumentException("the seed is negative");
        }
        int previous = now.seed;
        now.seed = seed;
        history.forget();
        return previous;
    }

    public int fencer(int fencer, int what) throws IndexOutOfBoundsException, IllegalArgumentException {
        checkFencer(fencer);
        checkWhat(what, 7);
        return now.roster.number(fencer, what);
    }

    public int meet(int what) throws IllegalArgumentException {
        checkWhat(what, 5);
        switch (what) {
            case 0: return now.phase;
            case 1: return now.roster.count;
            case 2: return now.pools.count;
            case 3: return now.bouts.count;
            case 4: return now.roster.countIn();
            default: return now.table.size;
        }
    }

    public int members(int pool) throws IndexOutOfBoundsException {
        checkPool(pool);
        return now.pools.sizes.get(pool);
    }

    public int member(int pool, int index) throws IndexOutOfBoundsException, NoSuchElementException {
        checkPool(pool);
        if (index < 0 || index >= now.pools.sizes.get(pool)) {
            throw new NoSuchElementException("there is no such member");
        }
        return now.pools.fencerAt(pool, index);
    }

    public int clubPairs() {
        int pairs = 0;
        for (int bout = 0; bout < now.bouts.ofPools; bout++) {
            int left = now.roster.clubs.get(now.bouts.fencerOn(bout, LEFT));
            int right = now.roster.clubs.get(now.bouts.fencerOn(bout, RIGHT));
            if (left == right) {
                pairs++;
            }
        }
        return pairs;
    }

    // ---- bouts ----

    public int bout(int bout, int what) throws IndexOutOfBoundsException, IllegalArgumentException {
        checkBout(bout);
        checkWhat(what, 8);
        return now.bouts.number(bout, what);
    }

    public int current() throws NoSuchElementException {
        if (now.current == NONE) {
            throw new NoSuchElementException("no bout is in progress");
        }
        return now.current;
    }

    public int poolBout(int one, int other) throws IndexOutOfBoundsException, NoSuchElementException {
        checkFencer(one);
        checkFencer(other);
        int found = one == other ? NONE : now.bouts.findInPool(one, other);
        if (found == NONE) {
            throw new NoSuchElementException("they have no bout in a pool");
        }
        return found;
    }

    public int begin(int bout) throws IndexOutOfBoundsException, UnsupportedOperationException {
        checkBout(bout);
        if (now.current != NONE || now.bouts.states.get(bout) != TO_COME || !now.bouts.knowsBoth(bout)) {
            throw new UnsupportedOperationException("this bout cannot begin");
        }
        history.keep(now);
        now.start(bout);
        return now.bouts.target(bout);
    }

    public int touch(int side) throws IllegalArgumentException, IllegalStateException {
        if (side != LEFT && side != RIGHT && side != BOTH) {
            throw new IllegalArgumentException("there is no such side");
        }
        int bout = boutInProgress();
        history.keep(now);
        if (side == BOTH) {
            now.scoreBoth();
        } else {
            now.score(side);
        }
        return now.bouts.states.get(bout);
    }

    public int time() throws IllegalStateException {
        int bout = boutInProgress();
        history.keep(now);
        now.runOut();
        return now.bouts.states.get(bout);
    }

    public int card(int side, int kind) throws IllegalArgumentException, IllegalStateException {
        if ((side != LEFT && side != RIGHT) || kind < YELLOW || kind > BLACK) {
            throw new IllegalArgumentException("there is no such side or card");
        }
        boutInProgress();
        history.keep(now);
        return now.show(side, kind);
    }

    public int enter(int bout, int left, int right, int winner)
            throws IndexOutOfBoundsException, UnsupportedOperationException {
        checkBout(bout);
        if (!enterUnlessRefused(bout, left, right, winner)) {
            throw new UnsupportedOperationException("the result is refused");
        }
        return now.bouts.winners.get(bout);
    }

    public int refusal() throws NoSuchElementException {
        if (reason == 0) {
            throw new NoSuchElementException("no result was refused");
        }
        return reason;
    }

    // ---- ranking and table ----

    public int result(int fencer, int what) throws IndexOutOfBoundsException, IllegalArgumentException {
        checkFencer(fencer);
        checkWhat(what, 4);
        standing.tally(now);
        return standing.number(fencer, what);
    }

    public double ratio(int fencer) throws IndexOutOfBoundsException, ArithmeticException {
        checkFencer(fencer);
        standing.tally(now);
        int fought = standing.fought.get(fencer);
        if (fought <= 0) {
            throw new ArithmeticException("no bout counts");
        }
        return (double) standing.victories.get(fencer) / (double) fought;
    }

    public int ranked(int index) throws NoSuchElementException {
        if (index < 0 || index >= now.roster.countIn()) {
            throw new NoSuchElementException("there is no such place in the ranking");
        }
        standing.rankAll(now);
        return standing.order.get(index);
    }

    public int place(int fencer) throws IndexOutOfBoundsException, NoSuchElementException {
        checkFencer(fencer);
        checkRanked(fencer);
        standing.tally(now);
        return standing.countBefore(now.roster, fencer);
    }

    public int why(int one, int other) throws IndexOutOfBoundsException, NoSuchElementException {
        checkFencer(one);
        checkFencer(other);
        checkRanked(one);
        checkRanked(other);
        if (one == other) {
            throw new NoSuchElementException("both are the same fencer");
        }
        standing.tally(now);
        return standing.compare(now.roster, one, other);
    }

    public int drawTable() throws IllegalStateException {
        if (now.phase != POOLS || now.current != NONE || now.bouts.countIn(TO_COME) > 0) {
            throw new IllegalStateException("it is not the time to draw the table");
        }
        if (now.roster.countIn() < 2) {
            throw new IllegalStateException("fewer than two fencers are not excluded");
        }
        history.keep(now);
        standing.rankAll(now);
        now.fillTable(standing.order, standing.count);
        return now.table.size;
    }

    public int seeded(int seed) throws IllegalStateException, NoSuchElementException {
        checkTable();
        int fencer = now.table.fencerWith(seed);
        if (fencer == NONE) {
            throw new NoSuchElementException("no fencer has this seed");
        }
        return fencer;
    }

    public int tableBout(int round, int index) throws IllegalStateException, NoSuchElementException {
        checkTable();
        if (!now.table.hasRound(round) || index < 0 || index >= round / 2) {
            throw new NoSuchElementException("there is no such round or index");
        }
        return now.boutOfRound(round, index);
    }

    public int finalist(int place) throws IllegalStateException, NoSuchElementException {
        if (now.phase != OVER) {
            throw new IllegalStateException("the meet is not over");
        }
        int fencer = now.table.fencerAtPlace(place);
        if (fencer == NONE) {
            throw new NoSuchElementException("there is no such place");
        }
        return fencer;
    }

    public int toGo(int fencer) throws IndexOutOfBoundsException, IllegalStateException, NoSuchElementException {
        checkFencer(fencer);
        checkTable();
        if (!now.table.isStillIn(fencer)) {
            throw new NoSuchElementException("the fencer is not in the table or has lost in it");
        }
        return now.boutsToWin(fencer);
    }

    // ---- relays ----

    public int beginRelay(int one, int other) throws IllegalArgumentException, IllegalStateException {
        if (!isClub(one) || !isClub(other) || one == other) {
            throw new IllegalArgumentException("these are not two clubs");
        }
        if (now.phase == ENTRIES || now.phase == POOLS) {
            throw new IllegalStateException("there are no relays yet");
        }
        if (now.roster.countInClub(one) < TEAM || now.roster.countInClub(other) < TEAM) {
            throw new IllegalStateException("a club has too few fencers");
        }
        history.keep(now);
        standing.rankAll(now);
        now.relay.start(one, other);
        now.chooseTeam(one, 0, standing.order, standing.count);
        now.chooseTeam(other, TEAM, standing.order, standing.count);
        return now.relay.nextOfFirst();
    }

    public int leg(int one, int other) throws IllegalStateException, IllegalArgumentException {
        if (!now.relay.isBegun || now.relay.told >= LEGS) {
            throw new IllegalStateException("no leg is to come");
        }
        if (!now.relay.canAdd(one, other)) {
            throw new IllegalArgumentException("a number is negative or a total would become too great");
        }
        history.keep(now);
        now.tellLeg(one, other);
        return LEGS - now.relay.told;
    }

    public int relay(int what) throws NoSuchElementException, IllegalArgumentException {
        if (!now.relay.isBegun) {
            throw new NoSuchElementException("there is no relay");
        }
        checkWhat(what, 6);
        return now.relay.number(what);
    }

    // ---- accounts, texts and changes ----

    public int account(int what) throws IllegalArgumentException {
        checkWhat(what, 8);
        standing.tally(now);
        switch (what) {
            case 5: return now.bouts.touchesInFinished();
            case 6: return standing.sumOfIndicators();
            case 7: return now.roster.sumOfCards();
            case 8: return standing.sumOfVictories();
            default: return now.bouts.countIn(what);
        }
    }

    public void append(char c) throws IllegalStateException {
        if (text.length >= MOST_SIGNS) {
            throw new IllegalStateException("the text buffer is full");
        }
        text.add(c);
    }

    public int readResults() throws IllegalArgumentException {
        text.scan();
        if (text.fault != NONE) {
            throw new IllegalArgumentException("the text has a fault");
        }
        int entered = 0;
        while (entered < text.count && now.bouts.has(text.part(entered, BOUT_PART))
                && enterUnlessRefused(text.part(entered, BOUT_PART), text.part(entered, LEFT_PART),
                        text.part(entered, RIGHT_PART), text.part(entered, WINNER_PART))) {
            entered++;
        }
        return entered;
    }

    public int faultPosition() {
        return text.fault;
    }

    public int undo() throws IllegalStateException {
        if (history.count <= 0) {
            throw new IllegalStateException("no change is kept");
        }
        history.takeBack(now);
        return history.count;
    }

    public void save() {
        saved.copyFrom(now);
        isSaved = true;
    }

    public void restore() throws IllegalStateException {
        if (!isSaved) {
            throw new IllegalStateException("there is no snapshot");
        }
        now.copyFrom(saved);
        history.forget();
    }

    // ---- helpers of the face ----

    private static boolean isClub(int club) {
        return club >= 0 && club < CLUBS;
    }

    private static void checkWhat(int what, int greatest) {
        if (what < 0 || what > greatest) {
            throw new IllegalArgumentException("there is no such number to ask for");
        }
    }

    private void checkFencer(int fencer) {
        if (fencer < 0 || fencer >= now.roster.count) {
            throw new IndexOutOfBoundsException("there is no such fencer");
        }
    }

    private void checkPool(int pool) {
        if (pool < 0 || pool >= now.pools.count) {
            throw new IndexOutOfBoundsException("there is no such pool");
        }
    }

    private void checkBout(int bout) {
        if (!now.bouts.has(bout)) {
            throw new IndexOutOfBoundsException("there is no such bout");
        }
    }

    private void checkRanked(int fencer) {
        if (now.roster.isExcluded(fencer)) {
            throw new NoSuchElementException("the fencer is excluded");
        }
    }

    private void checkTable() {
        if (now.table.size == 0) {
            throw new IllegalStateException("there is no table");
        }
    }

    private int boutInProgress() {
        if (now.current == NONE) {
            throw new IllegalStateException("no bout is in progress");
        }
        return now.current;
    }

    private boolean enterUnlessRefused(int bout, int left, int right, int winner) {
        int against = now.reasonAgainst(bout, left, right, winner);
        if (against != 0) {
            reason = against;
            return false;
        }
        history.keep(now);
        now.bouts.touches.set(2 * bout + LEFT, left);
        now.bouts.touches.set(2 * bout + RIGHT, right);
        if (left == right) {
            now.win(bout, winner);
        } else {
            now.win(bout, left > right ? LEFT : RIGHT);
        }
        return true;
    }

    /** A row of numbers that looks at each index: outside it there is NONE to get and nothing to set. */
    private static final class Row {
        private final int[] cells;

        Row(int length) {
            cells = new int[length < 0 ? 0 : length];
        }

        int get(int index) {
            return index >= 0 && index < cells.length ? cells[index] : NONE;
        }

        void set(int index, int value) {
            if (index >= 0 && index < cells.length) {
                cells[index] = value;
            }
        }

        void add(int index, int value) {
            set(index, get(index) + value);
        }

        void fill(int value) {
            for (int index = 0; index < cells.length; index++) {
                cells[index] = value;
            }
        }

        void copyFrom(Row other, int count) {
            int length = Math.min(count, Math.min(cells.length, other.cells.length));
            if (length > 0) {
                System.arraycopy(other.cells, 0, cells, 0, length);
            }
        }
    }

    /** The fencers entered. */
    private static final class Roster {
        private int count = 0;
        private final Row clubs = new Row(MOST_FENCERS);
        private final Row strengths = new Row(MOST_FENCERS);
        private final Row pools = new Row(MOST_FENCERS);
        private final Row numbers = new Row(MOST_FENCERS);
        private final Row excluded = new Row(MOST_FENCERS);
        private final Row cards = new Row(KINDS * MOST_FENCERS);

        int add(int club, int strength) {
            int fencer = count;
            clubs.set(fencer, club);
            strengths.set(fencer, strength);
            pools.set(fencer, NONE);
            numbers.set(fencer, NONE);
            excluded.set(fencer, 0);
            for (int kind = YELLOW; kind <= BLACK; kind++) {
                cards.set(KINDS * fencer + kind, 0);
            }
            count++;
            return fencer;
        }

        int number(int fencer, int what) {
            switch (what) {
                case 0: return clubs.get(fencer);
                case 1: return strengths.get(fencer);
                case 2: return pools.get(fencer);
                case 3: return numbers.get(fencer);
                case 4: return excluded.get(fencer);
                default: return cards.get(KINDS * fencer + what - 5);
            }
        }

        boolean isExcluded(int fencer) {
            return excluded.get(fencer) != 0;
        }

        boolean isStronger(int one, int other) {
            int first = strengths.get(one);
            int second = strengths.get(other);
            return first < second || (first == second && one < other);
        }

        int countIn() {
            int in = 0;
            for (int fencer = 0; fencer < count; fencer++) {
                if (!isExcluded(fencer)) {
                    in++;
                }
            }
            return in;
        }

        int countInClub(int club) {
            int in = 0;
            for (int fencer = 0; fencer < count; fencer++) {
                if (!isExcluded(fencer) && clubs.get(fencer) == club) {
                    in++;
                }
            }
            return in;
        }

        int sumOfCards() {
            int sum = 0;
            for (int index = 0; index < KINDS * count; index++) {
                sum += cards.get(index);
            }
            return sum;
        }

        void copyFrom(Roster other) {
            count = other.count;
            clubs.copyFrom(other.clubs, count);
            strengths.copyFrom(other.strengths, count);
            pools.copyFrom(other.pools, count);
            numbers.copyFrom(other.numbers, count);
            excluded.copyFrom(other.excluded, count);
            cards.copyFrom(other.cards, KINDS * count);
        }
    }

    /** The pools with their members, in the order in which these came. */
    private static final class Pools {
        private int count = 0;
        private final Row sizes = new Row(MOST_POOLS);
        private final Row fencers = new Row(MOST_POOLS * MOST_FENCERS);

        void open(int pools) {
            count = pools;
            sizes.fill(0);
        }

        int fencerAt(int pool, int index) {
            return fencers.get(MOST_FENCERS * pool + index);
        }

        /** The pool for a fencer of a row; those still free in this row have one member of each row before it. */
        int choose(int row, int club, Roster roster) {
            int best = NONE;
            int fewest = MOST_FENCERS;
            for (int step = 0; step < count; step++) {
                int pool = row % 2 == 0 ? step : count - 1 - step;
                int same = countOfClub(pool, club, roster);
                if (sizes.get(pool) == row && same < fewest) {
                    best = pool;
                    fewest = same;
                }
            }
            return best;
        }

        private int countOfClub(int pool, int club, Roster roster) {
            int same = 0;
            for (int index = 0; index < sizes.get(pool); index++) {
                if (roster.clubs.get(fencerAt(pool, index)) == club) {
                    same++;
                }
            }
            return same;
        }

        void put(int pool, int fencer, Roster roster) {
            int index = sizes.get(pool);
            fencers.set(MOST_FENCERS * pool + index, fencer);
            sizes.set(pool, index + 1);
            roster.pools.set(fencer, pool);
            roster.numbers.set(fencer, index);
        }

        void copyFrom(Pools other) {
            count = other.count;
            sizes.copyFrom(other.sizes, count);
            fencers.copyFrom(other.fencers, MOST_FENCERS * count);
        }
    }

    /** The bouts: those of the pools, then those of the table; each has two places in the rows of its two sides. */
    private static final class Bouts {
        private int count = 0;
        private int ofPools = 0;
        private final Row fencers = new Row(2 * MOST_BOUTS);
        private final Row touches = new Row(2 * MOST_BOUTS);
        private final Row states = new Row(MOST_BOUTS);
        private final Row winners = new Row(MOST_BOUTS);
        private final Row homes = new Row(MOST_BOUTS);
        private final Row priorities = new Row(MOST_BOUTS);

        void add(int home, int left, int right) {
            int bout = count;
            fencers.set(2 * bout + LEFT, left);
            fencers.set(2 * bout + RIGHT, right);
            homes.set(bout, home);
            count++;
            wipe(bout, TO_COME);
        }

        private void wipe(int bout, int state) {
            touches.set(2 * bout + LEFT, 0);
            touches.set(2 * bout + RIGHT, 0);
            winners.set(bout, NONE);
            priorities.set(bout, NONE);
            states.set(bout, state);
        }

        boolean has(int bout) {
            return bout >= 0 && bout < count;
        }

        int fencerOn(int bout, int side) {
            return fencers.get(2 * bout + side);
        }

        int touchesOn(int bout, int side) {
            return touches.get(2 * bout + side);
        }

        boolean isOfPool(int bout) {
            return bout < ofPools;
        }

        boolean isWith(int bout, int fencer) {
            return fencerOn(bout, LEFT) == fencer || fencerOn(bout, RIGHT) == fencer;
        }

        boolean knowsBoth(int bout) {
            return fencerOn(bout, LEFT) != NONE && fencerOn(bout, RIGHT) != NONE;
        }

        boolean isOpen(int bout) {
            return states.get(bout) == TO_COME || states.get(bout) == IN_PROGRESS;
        }

        int target(int bout) {
            return isOfPool(bout) ? POOL_TARGET : TABLE_TARGET;
        }

        int round(int bout) {
            return homes.get(bout) - TABLE_HOME;
        }

        int number(int bout, int what) {
            switch (what) {
                case 0: return fencerOn(bout, LEFT);
                case 1: return fencerOn(bout, RIGHT);
                case 2: return touchesOn(bout, LEFT);
                case 3: return touchesOn(bout, RIGHT);
                case 4: return states.get(bout);
                case 5: return winners.get(bout);
                case 6: return homes.get(bout);
                case 7: return target(bout);
                default: return priorities.get(bout);
            }
        }

        int findInPool(int one, int other) {
            for (int bout = 0; bout < ofPools; bout++) {
                if (isWith(bout, one) && isWith(bout, other)) {
                    return bout;
                }
            }
            return NONE;
        }

        void close(int bout, int side, int state) {
            states.set(bout, state);
            winners.set(bout, fencerOn(bout, side));
        }

        void annulInPool(int fencer) {
            for (int bout = 0; bout < ofPools; bout++) {
                if (isWith(bout, fencer)) {
                    wipe(bout, ANNULLED);
                }
            }
        }

        int countIn(int state) {
            int found = 0;
            for (int bout = 0; bout < count; bout++) {
                if (states.get(bout) == state) {
                    found++;
                }
            }
            return found;
        }

        int touchesInFinished() {
            int sum = 0;
            for (int bout = 0; bout < count; bout++) {
                if (states.get(bout) == FINISHED) {
                    sum += touchesOn(bout, LEFT) + touchesOn(bout, RIGHT);
                }
            }
            return sum;
        }

        void copyFrom(Bouts other) {
            count = other.count;
            ofPools = other.ofPools;
            fencers.copyFrom(other.fencers, 2 * count);
            touches.copyFrom(other.touches, 2 * count);
            states.copyFrom(other.states, count);
            winners.copyFrom(other.winners, count);
            homes.copyFrom(other.homes, count);
            priorities.copyFrom(other.priorities, count);
        }
    }

    /** The table: its size, its fencers by seed, and the round in which each one lost, 1 for who has not lost. */
    private static final class Table {
        private int size = 0;
        private int count = 0;
        private final Row bySeed = new Row(MOST_FENCERS);
        private final Row lostIn = new Row(MOST_FENCERS);

        void fill(Row order, int fencers) {
            count = fencers;
            size = leastSizeFor(fencers);
            bySeed.copyFrom(order, fencers);
            lostIn.fill(1);
        }

        private static int leastSizeFor(int fencers) {
            int size = FINAL;
            while (size < fencers && size < GREATEST_TABLE) {
                size *= 2;
            }
            return size;
        }

        int fencerWith(int seed) {
            return seed >= 1 && seed <= count ? bySeed.get(seed - 1) : NONE;
        }

        /** The fencer at a position in the order of the seeds; each halving of the table is one step of its rule. */
        int fencerAt(int position) {
            int seed = 1;
            int among = 2;
            for (int step = size / 2; step >= 1; step /= 2) {
                if ((position & step) != 0) {
                    seed = among + 1 - seed;
                }
                among *= 2;
            }
            return fencerWith(seed);
        }

        boolean hasRound(int round) {
            for (int each = FINAL; each <= size; each *= 2) {
                if (each == round) {
                    return true;
                }
            }
            return false;
        }

        boolean isStillIn(int fencer) {
            for (int seed = 1; seed <= count; seed++) {
                if (fencerWith(seed) == fencer) {
                    return lostIn.get(fencer) == 1;
                }
            }
            return false;
        }

        /** The fencer with a final place, for when all but one have lost. */
        int fencerAtPlace(int place) {
            int given = 0;
            for (int round = 1; round <= size; round *= 2) {
                for (int seed = 1; seed <= count; seed++) {
                    int fencer = fencerWith(seed);
                    if (lostIn.get(fencer) == round) {
                        given++;
                        if (given == place) {
                            return fencer;
                        }
                    }
                }
            }
            return NONE;
        }

        void copyFrom(Table other) {
            size = other.size;
            count = other.count;
            bySeed.copyFrom(other.bySeed, count);
            lostIn.copyFrom(other.lostIn, MOST_FENCERS);
        }
    }

    /** The relay of two clubs; its six fencers have the numbers 1 to 6 of the document. */
    private static final class Relay {
        private boolean isBegun = false;
        private int firstClub = NONE;
        private int otherClub = NONE;
        private int told = 0;
        private int firstTotal = 0;
        private int otherTotal = 0;
        private int winner = NONE;
        private boolean isDrawn = false;
        private final Row team = new Row(2 * TEAM);

        void start(int one, int other) {
            isBegun = true;
            firstClub = one;
            otherClub = other;
            told = 0;
            firstTotal = 0;
            otherTotal = 0;
            winner = NONE;
            isDrawn = false;
        }

        boolean canAdd(int one, int other) {
            int limit = LEG_TOUCHES * (told + 1);
            return one >= 0 && other >= 0 && one <= limit - firstTotal && other <= limit - otherTotal;
        }

        void add(int one, int other) {
            firstTotal += one;
            otherTotal += other;
            told++;
        }

        void decide(int side) {
            winner = side == LEFT ? firstClub : otherClub;
        }

        int nextOfFirst() {
            return told >= 0 && told < FIRST_IN_LEG.length ? team.get(FIRST_IN_LEG[told] - 1) : NONE;
        }

        int nextOfOther() {
            return told >= 0 && told < OTHER_IN_LEG.length ? team.get(OTHER_IN_LEG[told] - 1) : NONE;
        }

        int number(int what) {
            switch (what) {
                case 0: return told;
                case 1: return firstTotal;
                case 2: return otherTotal;
                case 3: return winner;
                case 4: return nextOfFirst();
                case 5: return nextOfOther();
                default: return isDrawn ? 1 : 0;
            }
        }

        void copyFrom(Relay other) {
            isBegun = other.isBegun;
            firstClub = other.firstClub;
            otherClub = other.otherClub;
            told = other.told;
            firstTotal = other.firstTotal;
            otherTotal = other.otherTotal;
            winner = other.winner;
            isDrawn = other.isDrawn;
            team.copyFrom(other.team, 2 * TEAM);
        }
    }

    /** All that a change can change, and that undo and restore bring back. */
    private static final class Meet {
        private int phase = ENTRIES;
        private int seed = 1;
        private int current = NONE;
        private final Row cardsShown = new Row(2);
        private final Roster roster = new Roster();
        private final Pools pools = new Pools();
        private final Bouts bouts = new Bouts();
        private final Table table = new Table();
        private final Relay relay = new Relay();

        void fillPools(int count, Row order) {
            pools.open(count);
            for (int index = 0; index < roster.count && count > 0; index++) {
                int fencer = order.get(index);
                int pool = pools.choose(index / count, roster.clubs.get(fencer), roster);
                pools.put(pool, fencer, roster);
            }
            for (int pool = 0; pool < count; pool++) {
                addBoutsOfPool(pool);
            }
            phase = POOLS;
        }

        private void addBoutsOfPool(int pool) {
            int size = pools.sizes.get(pool);
            for (int left = 0; left < size; left++) {
                for (int right = left + 1; right < size; right++) {
                    bouts.add(pool, pools.fencerAt(pool, left), pools.fencerAt(pool, right));
                }
            }
            bouts.ofPools = bouts.count;
        }

        void start(int bout) {
            current = bout;
            cardsShown.fill(0);
            bouts.states.set(bout, IN_PROGRESS);
        }

        void score(int side) {
            bouts.touches.add(2 * current + side, 1);
            boolean hasTarget = bouts.touchesOn(current, side) >= bouts.target(current);
            if (hasTarget || bouts.priorities.get(current) != NONE) {
                win(current, side);
            }
        }

        void scoreBoth() {
            int most = bouts.target(current) - 2;
            if (bouts.priorities.get(current) == NONE
                    && bouts.touchesOn(current, LEFT) <= most && bouts.touchesOn(current, RIGHT) <= most) {
                bouts.touches.add(2 * current + LEFT, 1);
                bouts.touches.add(2 * current + RIGHT, 1);
            }
        }

        void runOut() {
            int left = bouts.touchesOn(current, LEFT);
            int right = bouts.touchesOn(current, RIGHT);
            int priority = bouts.priorities.get(current);
            if (priority != NONE) {
                win(current, priority);
            } else if (left != right) {
                win(current, left > right ? LEFT : RIGHT);
            } else {
                bouts.priorities.set(current, drawSide());
            }
        }

        private int drawSide() {
            seed = (int) ((seed * 1103515245L + 12345L) % 2147483648L);
            return seed / 65536 % 2;
        }

        int show(int side, int kind) {
            int counted = kind == YELLOW && cardsShown.get(side) > 0 ? RED : kind;
            int fencer = bouts.fencerOn(current, side);
            cardsShown.add(side, 1);
            roster.cards.add(KINDS * fencer + counted, 1);
            if (counted == RED) {
                score(1 - side);
            } else if (counted == BLACK) {
                exclude(fencer, side);
            }
            return counted;
        }

        private void exclude(int fencer, int side) {
            roster.excluded.set(fencer, 1);
            if (bouts.isOfPool(current)) {
                bouts.annulInPool(fencer);
                current = NONE;
            } else {
                win(current, 1 - side);
            }
        }

        /** The first reason to refuse a result, 0 if there is none. */
        int reasonAgainst(int bout, int left, int right, int winner) {
            int target = bouts.target(bout);
            if (bouts.states.get(bout) != TO_COME) {
                return 1;
            }
            if (current != NONE) {
                return 2;
            }
            if (!bouts.knowsBoth(bout)) {
                return 3;
            }
            if (left < 0 || left > target || right < 0 || right > target) {
                return 4;
            }
            if (left == target && right == target) {
                return 5;
            }
            boolean fits = left == right ? winner == LEFT || winner == RIGHT : winner == NONE;
            return fits ? 0 : 6;
        }

        void win(int bout, int side) {
            bouts.close(bout, side, FINISHED);
            current = NONE;
            if (!bouts.isOfPool(bout)) {
                int loser = bouts.fencerOn(bout, 1 - side);
                table.lostIn.set(loser, bouts.round(bout));
                advance(bout);
            }
        }

        private void advance(int bout) {
            int round = bouts.round(bout);
            if (round == FINAL) {
                phase = OVER;
            } else {
                int index = bout - boutOfRound(round, 0);
                int next = boutOfRound(round / 2, index / 2);
                bouts.fencers.set(2 * next + index % 2, bouts.winners.get(bout));
            }
        }

        /** All rounds before one together have as many bouts as fencers that drop out in them. */
        int boutOfRound(int round, int index) {
            return bouts.ofPools + table.size - round + index;
        }

        void fillTable(Row order, int count) {
            table.fill(order, count);
            for (int position = 0; position < table.size; position += 2) {
                bouts.add(TABLE_HOME + table.size, table.fencerAt(position), table.fencerAt(position + 1));
            }
            for (int round = table.size / 2; round >= FINAL; round /= 2) {
                for (int index = 0; index < round / 2; index++) {
                    bouts.add(TABLE_HOME + round, NONE, NONE);
                }
            }
            for (int index = 0; index < table.size / 2; index++) {
                passBye(boutOfRound(table.size, index));
            }
            phase = TABLE;
        }

        /** A seed without a fencer is one of the greater ones, which stand on the right side of the first round. */
        private void passBye(int bout) {
            if (bouts.fencerOn(bout, RIGHT) == NONE) {
                bouts.close(bout, LEFT, BYE);
                advance(bout);
            }
        }

        int boutsToWin(int fencer) {
            for (int bout = bouts.ofPools; bout < bouts.count; bout++) {
                if (bouts.isWith(bout, fencer) && bouts.isOpen(bout)) {
                    return roundsFrom(bouts.round(bout));
                }
            }
            return 0;
        }

        private static int roundsFrom(int round) {
            int rounds = 0;
            for (int each = round; each >= FINAL; each /= 2) {
                rounds++;
            }
            return rounds;
        }

        void chooseTeam(int club, int from, Row order, int count) {
            int chosen = 0;
            for (int index = 0; index < count && chosen < TEAM; index++) {
                int fencer = order.get(index);
                if (roster.clubs.get(fencer) == club) {
                    relay.team.set(from + chosen, fencer);
                    chosen++;
                }
            }
        }

        void tellLeg(int one, int other) {
            relay.add(one, other);
            if (relay.told == LEGS) {
                relay.isDrawn = relay.firstTotal == relay.otherTotal;
                if (relay.isDrawn) {
                    relay.decide(drawSide());
                } else {
                    relay.decide(relay.firstTotal > relay.otherTotal ? LEFT : RIGHT);
                }
            }
        }

        void copyFrom(Meet other) {
            phase = other.phase;
            seed = other.seed;
            current = other.current;
            cardsShown.copyFrom(other.cardsShown, 2);
            roster.copyFrom(other.roster);
            pools.copyFrom(other.pools);
            bouts.copyFrom(other.bouts);
            table.copyFrom(other.table);
            relay.copyFrom(other.relay);
        }
    }

    /** The meets before the latest changes, in a ring whose places are used again. */
    private static final class History {
        private final Meet[] kept = new Meet[MOST_KEPT];
        private int oldest = 0;
        private int count = 0;

        History() {
            for (int index = 0; index < kept.length; index++) {
                kept[index] = new Meet();
            }
        }

        private Meet slot(int age) {
            int index = (oldest + age) % MOST_KEPT;
            return index >= 0 && index < kept.length ? kept[index] : null;
        }

        void keep(Meet meet) {
            if (count >= MOST_KEPT) {
                oldest = (oldest + 1) % MOST_KEPT;
                count--;
            }
            Meet slot = slot(count);
            if (slot != null) {
                slot.copyFrom(meet);
                count++;
            }
        }

        void takeBack(Meet meet) {
            Meet slot = slot(count - 1);
            if (slot != null) {
                meet.copyFrom(slot);
                count--;
            }
        }

        void forget() {
            count = 0;
        }
    }

    /** The ranking, counted anew from the bouts each time it is asked for. */
    private static final class Standing {
        private int count = 0;
        private final Row victories = new Row(MOST_FENCERS);
        private final Row fought = new Row(MOST_FENCERS);
        private final Row scored = new Row(MOST_FENCERS);
        private final Row received = new Row(MOST_FENCERS);
        private final Row order = new Row(MOST_FENCERS);

        void tally(Meet meet) {
            victories.fill(0);
            fought.fill(0);
            scored.fill(0);
            received.fill(0);
            for (int bout = 0; bout < meet.bouts.ofPools; bout++) {
                if (meet.bouts.states.get(bout) == FINISHED) {
                    countSide(meet.bouts, bout, LEFT);
                    countSide(meet.bouts, bout, RIGHT);
                }
            }
        }

        private void countSide(Bouts bouts, int bout, int side) {
            int fencer = bouts.fencerOn(bout, side);
            fought.add(fencer, 1);
            scored.add(fencer, bouts.touchesOn(bout, side));
            received.add(fencer, bouts.touchesOn(bout, 1 - side));
            if (bouts.winners.get(bout) == fencer) {
                victories.add(fencer, 1);
            }
        }

        int indicator(int fencer) {
            return scored.get(fencer) - received.get(fencer);
        }

        int number(int fencer, int what) {
            switch (what) {
                case 0: return victories.get(fencer);
                case 1: return fought.get(fencer);
                case 2: return scored.get(fencer);
                case 3: return received.get(fencer);
                default: return indicator(fencer);
            }
        }

        /** The reason for which one ranks before the other, negative if it is the other who does. */
        int compare(Roster roster, int one, int other) {
            int byRatio = compareRatios(one, other);
            if (byRatio != 0) {
                return byRatio;
            }
            int byIndicator = Integer.compare(indicator(one), indicator(other));
            if (byIndicator != 0) {
                return byIndicator > 0 ? 2 : -2;
            }
            int byScored = Integer.compare(scored.get(one), scored.get(other));
            if (byScored != 0) {
                return byScored > 0 ? 3 : -3;
            }
            return roster.isStronger(one, other) ? 4 : -4;
        }

        /** Multiplied crosswise, so that nothing is rounded; who has no bout has no victory of one bout. */
        private int compareRatios(int one, int other) {
            int first = victories.get(one) * Math.max(1, fought.get(other));
            int second = victories.get(other) * Math.max(1, fought.get(one));
            return first == second ? 0 : first > second ? 1 : -1;
        }

        int countBefore(Roster roster, int fencer) {
            int before = 0;
            for (int other = 0; other < roster.count; other++) {
                if (other != fencer && !roster.isExcluded(other) && compare(roster, other, fencer) > 0) {
                    before++;
                }
            }
            return before;
        }

        void rankAll(Meet meet) {
            tally(meet);
            count = 0;
            for (int fencer = 0; fencer < meet.roster.count; fencer++) {
                if (!meet.roster.isExcluded(fencer)) {
                    insert(meet.roster, fencer);
                }
            }
        }

        private void insert(Roster roster, int fencer) {
            int index = count;
            while (index > 0 && compare(roster, fencer, order.get(index - 1)) > 0) {
                order.set(index, order.get(index - 1));
                index--;
            }
            order.set(index, fencer);
            count++;
        }

        int sumOfIndicators() {
            int sum = 0;
            for (int fencer = 0; fencer < MOST_FENCERS; fencer++) {
                sum += indicator(fencer);
            }
            return sum;
        }

        int sumOfVictories() {
            int sum = 0;
            for (int fencer = 0; fencer < MOST_FENCERS; fencer++) {
                sum += victories.get(fencer);
            }
            return sum;
        }
    }

    /** The text buffer, and what was read from it: the bout, the touches of both sides and the winning side. */
    private static final class ResultText {
        private final char[] signs = new char[MOST_SIGNS];
        private int length = 0;
        private int fault = NONE;
        private final Row parts = new Row(PARTS * (MOST_SIGNS / SHORTEST_RESULT + 1));
        private int count = 0;
        private int part = 0;
        private int digits = 0;

        void add(char sign) {
            if (length >= 0 && length < signs.length) {
                signs[length] = sign;
                length++;
            }
        }

        int part(int result, int which) {
            return parts.get(PARTS * result + which);
        }

        /** Reads the whole buffer, tells the fault and empties the buffer. */
        void scan() {
            count = 0;
            fault = NONE;
            openPart(BOUT_PART);
            for (int index = 0; index < length && index < signs.length && fault == NONE; index++) {
                if (!accept(signs[index])) {
                    fault = index;
                }
            }
            boolean isWhole = count > 0 && part == BOUT_PART && digits == 0;
            if (fault == NONE && !isWhole) {
                fault = length;
            }
            length = 0;
        }

        private boolean accept(char sign) {
            if (sign >= '0' && sign <= '9') {
                return acceptDigit(sign - '0');
            }
            boolean hasNumber = digits > 0;
            if (sign == '=' && part == BOUT_PART && hasNumber) {
                openPart(LEFT_PART);
            } else if (sign == ':' && part == LEFT_PART && hasNumber) {
                openPart(RIGHT_PART);
            } else if ((sign == 'l' || sign == 'r') && part == RIGHT_PART && hasNumber) {
                openPart(WINNER_PART);
                parts.set(PARTS * count + WINNER_PART, sign == 'l' ? LEFT : RIGHT);
            } else if (sign == ';' && (part == WINNER_PART || (part == RIGHT_PART && hasNumber))) {
                count++;
                openPart(BOUT_PART);
            } else {
                return false;
            }
            return true;
        }

        private void openPart(int next) {
            part = next;
            digits = 0;
            parts.set(PARTS * count + part, 0);
            parts.set(PARTS * count + WINNER_PART, NONE);
        }

        private boolean acceptDigit(int digit) {
            int most = part == BOUT_PART ? 3 : 2;
            if (part == WINNER_PART || digits >= most) {
                return false;
            }
            parts.set(PARTS * count + part, 10 * part(count, part) + digit);
            digits++;
            return true;
        }
    }
}
