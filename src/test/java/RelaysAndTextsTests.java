import java.util.stream.IntStream;

/** Each sentence of the description about relays and texts, on both sides of its boundaries. */
public final class RelaysAndTextsTests {
    private RelaysAndTextsTests() {
    }

    public static void main(String[] args) {
        teams();
        legs();
        totals();
        winnersOfRelays();
        textsOfResults();
        faultPositions();
        Checks.end("RelaysAndTextsTests");
    }

    // ---- relays ----

    private static void teams() {
        Checks.about("A relay of two clubs is fenced by three fencers of each, the first three in the ranking "
                + "of this moment, called 1, 2, 3 of the one and 4, 5, 6 of the other club, who stay for the "
                + "whole relay.");
        // the weaker one wins each bout: 7 6 5 .. are ranked; club 1 has 7 5 3 1, club 0 has 6 4 2 0
        FencingMeet m = Meets.entered(8);
        m.drawPools(1);
        for (int bout = 0; bout < 28; bout++) {
            m.enter(bout, 1, 5, -1);
        }
        m.drawTable();
        Checks.due("fencer 3", 3, () -> m.beginRelay(1, 0));
        Checks.due("fencer 6", 2, () -> m.relay(5));
        m.leg(0, 0);
        Checks.due("fencer 1", 7, () -> m.relay(4));
        Checks.due("fencer 5", 4, () -> m.relay(5));
        // who is excluded then stays in this relay, and is not in the next one
        int bout = m.tableBout(8, 0);
        Checks.due("7 has the first seed", 7, () -> m.bout(bout, 0));
        m.begin(bout);
        m.card(0, 2);
        Checks.due("stays", 7, () -> m.relay(4));
        Checks.due("the third one now", 1, () -> m.beginRelay(1, 0));
        m.leg(0, 0);
        Checks.due("the first one now", 5, () -> m.relay(4));
        // two are left of club 1
        for (int fencer : new int[] {5, 3}) {
            int own = IntStream.range(m.tableBout(8, 0), m.tableBout(4, 0))
                    .filter(b -> m.bout(b, 0) == fencer || m.bout(b, 1) == fencer).findFirst().orElseThrow();
            Checks.due("before, of " + fencer, 0, () -> m.fencer(fencer, 4));
            m.begin(own);
            m.card(m.bout(own, 0) == fencer ? 0 : 1, 2);
            Checks.fails("too few", Checks.STATE, () -> m.beginRelay(1, 0));
            Checks.fails("too few of the other", Checks.STATE, () -> m.beginRelay(0, 1));
        }
    }

    private static void legs() {
        Checks.about("It has nine legs, of 3 and 6, 1 and 5, 2 and 4, 1 and 6, 3 and 4, 2 and 5, 1 and 4, 2 "
                + "and 6, 3 and 5.");
        // 1 2 3 are 1 3 5, and 4 5 6 are 0 2 4
        FencingMeet m = Meets.withRelay();
        int[] one = {5, 1, 3, 1, 5, 3, 1, 3, 5, -1};
        int[] other = {4, 2, 0, 4, 0, 2, 0, 4, 2, -1};
        for (int k = 0; k <= 9; k++) {
            int leg = k;
            Checks.due("told", leg, () -> m.relay(0));
            Checks.due("of the one in leg " + (leg + 1), one[leg], () -> m.relay(4));
            Checks.due("of the other in leg " + (leg + 1), other[leg], () -> m.relay(5));
            if (leg < 9) {
                Checks.due("remain", 8 - leg, () -> m.leg(0, 0));
            }
        }
        Checks.fails("a tenth", Checks.STATE, () -> m.leg(0, 0));
    }

    private static void totals() {
        Checks.about("In leg k, from 1, each club adds touches to its total, which must not become greater "
                + "than 5 times k.");
        FencingMeet zeros = Meets.withRelay();
        FencingMeet fives = Meets.withRelay();
        for (int k = 1; k <= 9; k++) {
            int limit = 5 * k;
            Checks.fails("one above, from 0", Checks.ARGUMENT, () -> zeros.leg(limit + 1, 0));
            Checks.fails("the other one above, from 0", Checks.ARGUMENT, () -> zeros.leg(0, limit + 1));
            Checks.due("as many, from 0", 9 - k, () -> zeros.leg(limit, limit));
            Checks.due("the total", limit, () -> zeros.relay(1));
            Checks.due("the other total", limit, () -> zeros.relay(2));
            zeros.undo();
            zeros.leg(0, 0);
            Checks.fails("one above", Checks.ARGUMENT, () -> fives.leg(6, 5));
            Checks.fails("the other one above", Checks.ARGUMENT, () -> fives.leg(5, 6));
            Checks.fails("negative", Checks.ARGUMENT, () -> fives.leg(-1, 5));
            Checks.fails("the other one negative", Checks.ARGUMENT, () -> fives.leg(5, -1));
            Checks.due("as many", 9 - k, () -> fives.leg(5, 5));
            Checks.due("the total of fives", limit, () -> fives.relay(1));
            Checks.due("the other total of fives", limit, () -> fives.relay(2));
        }
        FencingMeet less = Meets.withRelay();
        less.leg(2, 4);
        Checks.fails("8 from 2 and 7 from 4", Checks.ARGUMENT, () -> less.leg(8, 7));
        Checks.fails("9 from 2 and 6 from 4", Checks.ARGUMENT, () -> less.leg(9, 6));
        Checks.due("8 from 2 and 6 from 4", 7, () -> less.leg(8, 6));
        Checks.fails("far off", Checks.ARGUMENT, () -> less.leg(Checks.GREATEST, Checks.GREATEST));
    }

    private static void winnersOfRelays() {
        Checks.about("Behind the last leg, the greater total wins; with equal totals, a side is drawn that "
                + "wins, 0 for the first club.");
        int[][] last = {{45, 44, 1, 0}, {44, 45, 0, 0}, {1, 0, 1, 0}, {0, 1, 0, 0}, {45, 0, 1, 0}, {0, 45, 0, 0}};
        for (int[] l : last) {
            relayEnds(l[0], l[1], Draws.seedBefore(0), l[2], 0);
            relayEnds(l[0], l[1], Draws.seedBefore(65536), l[2], 0);
        }
        for (int each : new int[] {0, 1, 44, 45}) {
            relayEnds(each, each, Draws.seedBefore(65535), 1, 1);
            relayEnds(each, each, Draws.seedBefore(65536), 0, 1);
        }
    }

    /** The relay is one of club 1, the first one, and club 0. */
    private static void relayEnds(int one, int other, int seed, int club, int drawn) {
        FencingMeet m = Meets.withRelay();
        m.setSeed(seed);
        for (int leg = 1; leg <= 8; leg++) {
            m.leg(0, 0);
            Checks.due("not decided", -1, () -> m.relay(3));
            Checks.due("not drawn", 0, () -> m.relay(6));
        }
        Checks.due("the last leg", 0, () -> m.leg(one, other));
        Checks.due("the winner with " + one + ":" + other, club, () -> m.relay(3));
        Checks.due("drawn with " + one + ":" + other, drawn, () -> m.relay(6));
        int next = drawn == 1 ? Draws.behind(seed) : seed;
        Checks.due("the number is drawn with equal totals alone", next, () -> m.setSeed(0));
    }

    // ---- texts ----

    private static void textsOfResults() {
        Checks.about("A text of results consists of one or more results, each followed by \";\": the number "
                + "of a bout, \"=\", the touches of the left side, \":\", the touches of the right side, and "
                + "possibly \"l\" or \"r\" for the winning side; the number of a bout has 1 to 3 digits, "
                + "touches have 1 or 2, and both may begin with 0.");
        String[] texts = {"1=5:2;", "01=5:2;", "001=5:2;", "1=05:2;", "1=5:02;", "001=05:02;"};
        for (String text : texts) {
            FencingMeet m = Meets.onePool(4);
            Meets.type(m, text);
            Checks.due(text, 1, m::readResults);
            Checks.row(text, new int[] {0, 2, 5, 2, 2, 0, 0, 5, -1}, what -> m.bout(1, what));
        }
        FencingMeet sides = Meets.onePool(4);
        Meets.type(sides, "0=3:3l;1=3:3r;2=00:00r;");
        Checks.due("sides", 3, sides::readResults);
        Checks.row("winners", new int[] {0, 2, 3}, b -> sides.bout(b, 5));
        FencingMeet table = Meets.withTable(24);
        Meets.type(table, "277=15:14;279=9:09l;");
        Checks.due("three digits and two", 2, table::readResults);
        Checks.touches("two digits", table, 277, 15, 14);
        Checks.fails("no result", Checks.ARGUMENT, () -> Meets.onePool(4).readResults());
        for (String text : new String[] {"0001=5:2;", "1=005:2;", "1=5:002;", "=5:2;", "1=:2;", "1=5:;", "1=5;", "1:5;",
            "1=5:2", "1=5:2lr;", "1=5:2ll;", ";1=5:2;", "1=5:2;;", "l1=5:2;", "1=5l:2;", "1=-5:2;", "1 =5:2;",
            "1=5:2;1"}) {
            FencingMeet m = Meets.onePool(4);
            Meets.type(m, text);
            Checks.fails(text, Checks.ARGUMENT, m::readResults);
            Checks.due(text + ": nothing is entered", 6, () -> m.account(0));
        }
    }

    /** Behind each beginning of a text, each character that can continue it, and all the others. */
    private static void faultPositions() {
        Checks.about("The fault position of a text is the index of its first character that cannot continue "
                + "such a text, or the length of the text if it ends too early.");
        String digits = "0123456789";
        String[][] next = {{"", digits}, {"1", digits + "="}, {"10", digits + "="}, {"109", "="}, {"1=", digits},
            {"109=", digits}, {"1=0", digits + ":"}, {"1=15", ":"}, {"1=1:", digits}, {"1=1:0", digits + "lr;"},
            {"1=1:15", "lr;"}, {"1=1:1l", ";"}, {"1=1:15r", ";"}, {"1=1:2;", digits}, {"1=1:2;3", digits + "="},
            {"1=1:2;300", "="}, {"1=1:2r;3=", digits}, {"1=1:2;3=1:1", digits + "lr;"}, {"1=1:2;3=1:1;", digits}};
        for (String[] one : next) {
            boolean whole = one[0].endsWith(";");
            Checks.due("'" + one[0] + "' ends", whole ? -1 : one[0].length(), () -> faultOf(one[0]));
            for (char c = 0; c < 300; c++) {
                boolean fits = one[1].indexOf(c) >= 0;
                String text = one[0] + c;
                int due = !fits ? one[0].length() : c == ';' ? -1 : text.length();
                Checks.due("'" + one[0] + "' and character " + (int) c, due, () -> faultOf(text));
            }
            for (char c : new char[] {'\u0660', '\uff11', '\uff1d', '\u1234', '\uffff'}) {
                Checks.due("'" + one[0] + "' and character " + (int) c, one[0].length(), () -> faultOf(one[0] + c));
            }
            Checks.due("'" + one[0] + "', the first of two faults", one[0].length(), () -> faultOf(one[0] + "x;="));
        }
        String sixty = "000=00:01;".repeat(6);
        Checks.due("60 characters", -1, () -> faultOf(sixty));
        Checks.due("60 characters, the last one a fault", 59, () -> faultOf(sixty.substring(0, 59) + "="));
        Checks.due("59 characters", 59, () -> faultOf(sixty.substring(0, 59)));
        Checks.due("60 characters that end too early", 60, () -> faultOf(sixty.substring(0, 59) + "l"));
    }

    private static FencingMeet reader = Meets.onePool(3);
    private static int read = 0;

    private static int faultOf(String text) {
        read += text.length() + 2;
        if (read > 450) {
            reader = Meets.onePool(3);
            read = text.length() + 2;
        }
        Meets.type(reader, text);
        Checks.answerOf(reader::readResults);
        return reader.faultPosition();
    }
}
