import java.util.ArrayList;
import java.util.Arrays;
import java.util.List;

/**
 * Refused calls, for each call of the face in each situation: the first value that is refused on either side and what is
 * far off, by its code; the last one that is taken on either side; of several grounds that which the call tells first;
 * and that nothing changed by any of them.
 */
public final class RefusedTest {
    private static final int NO_SUCH = -2;
    private static final int NUMBER = -3;
    private static final int FULL = -4;
    private static final int NOT_NOW = -5;
    private static final int MISSING = -6;
    private static final int TOO_FEW = -7;
    private static final int MOST_CALLS = 90;

    /** An argument: a usual value, all else that is taken at the edges, what is refused, and by which code. */
    private record Argument(int code, long usual, long[] taken, long[] refused) {
    }

    private final Situation situation;
    private final CoasterDay shape;
    private String name;
    private int ground;
    private final List<Argument> arguments = new ArrayList<>();

    private RefusedTest(Situation situation) {
        this.situation = situation;
        this.shape = situation.make();
    }

    public static void main(String[] args) {
        situations();
        for (Situation s : Situation.values()) {
            RefusedTest t = new RefusedTest(s);
            t.track();
            t.blocks();
            t.dispatch();
            t.stairs();
            t.more();
            t.crossings();
            t.people();
            t.rows();
        }
        Check.end();
    }

    /** What the situations have, by count(). */
    private static void situations() {
        Check.promise("situations");
        int[][] due = {new int[16], {0, 0, 0, 0, 0, 0, 0, 0, 0, 2, 2, 40, 2, 0, 0, 2}, {3, 2, 0, 0, 0, 20, 0, 0, 0, 0, 0, 0, 0, 0, 0, 0},
            {3, 2, 0, 0, 0, 20, 0, 0, 0, 0, 0, 0, 0, 0, 0, 0}, {5, 3, 2, 1, 1, 99, 2, 3, 2, 2, 2, 40, 2, 3, 3, 2},
            {60, 6, 2, 2, 1, 600, 12, 12, 6, 10, 8, 400, 10, 20, 20, 8}};
        for (Situation s : Situation.values()) {
            for (int what = 0; what <= 15; what++) {
                Check.due(s + " count(" + what + ")", s.make().count(what), due[s.ordinal()][what]);
            }
        }
        for (int row = 0; row < 4; row++) {
            Check.due("FULL: the last number", Situation.FULL.make().write(row, 59, 1), 1);
            Check.due("NEW: no ROW", Situation.NEW.make().write(row, 0, 1), MISSING);
        }
    }

    // ---- the calls, in the order of the face; each tells its arguments and by what the situation refuses it

    private void track() {
        call("feed").free(0).free(0).free(0).free(0).free(0).by(situation == Situation.FULL ? FULL : 0).go();
        call("text").notAbove(NO_SUCH, 0, 1).from(NUMBER, 0, shape.count(11)).by(0).go();
        call("text").only(1).from(NUMBER, 0, shape.count(11)).byTrack().go();
        call("fault").free(0).by(0).go();
        call("run").weight().from(NUMBER, 0, 99).from(NUMBER, 0, 99).from(NO_SUCH, 0, 5).byTrack().go();
        call("speed").weight().point(0).byTrack().go();
        call("point").point(0).from(NO_SUCH, 0, 1).byTrack().go();
        call("felt").weight().point(1).from(NO_SUCH, 0, 9).byTrack().go();
        call("feels").weight().from(NO_SUCH, 0, 9).free(1).byTrack().go();
        call("odds").weight().to(NUMBER, 1, 20).from(NUMBER, 0, 99).to(NUMBER, 0, 99).from(NUMBER, 0, 99).byTrack().go();
        call("odds").only(7).to(NUMBER, 7, 20).only(40).to(NUMBER, 40, 99).from(NUMBER, 0, 99).byTrack().go();
        call("odds").from(NUMBER, 1, 7).only(7).from(NUMBER, 0, 40).only(40).from(NUMBER, 0, 99).byTrack().go();
    }

    private void blocks() {
        call("row").from(NO_SUCH, 0, 1).bits().from(NUMBER, 0, 3).free(-1).byTrack().go();
        call("leaves").bits().block().byTrack().go();
        call("time").weight().block().byTrack().go();
    }

    private void dispatch() {
        call("holds").weight().to(NUMBER, 1, 10).from(NUMBER, 1, 999).notBelow(NO_SUCH, -1).from(NUMBER, 0, 999).byTrack().go();
        call("holds").weight().only(10).from(NUMBER, 1, 999).from(NO_SUCH, -1, 9).from(NUMBER, 0, 999).byTrack().go();
        call("holds").weight().only(1).from(NUMBER, 1, 999).from(NO_SUCH, -1, 0).from(NUMBER, 0, 999).byTrack().go();
        call("beat").weight().trainCount().from(NUMBER, 0, 999).from(NUMBER, 0, 99).byTrack().go();
        call("log").from(NO_SUCH, 0, 3).weight().from(NUMBER, 1, 99999).from(NUMBER, 0, 99).byFull().byTrack().go();
        call("fits").free(-1).byTrack().go();
        call("worn").byTrack().go();
    }

    private void stairs() {
        call("stair").point(0, situation == Situation.SOME ? 2 : 1).byFull().byTrack().go();
        call("stair").only(situation == Situation.FULL ? 59 : 3).by(situation.hasLists() && shape.count(0) > 0 ? NUMBER : 0)
            .byTrack().goIf(situation != Situation.PLAIN && situation != Situation.SHORT);
        call("walk").point(0).from(NO_SUCH, 0, 1).byTrack().go();
        call("worst").from(NO_SUCH, 0, 1).byTrack().go();
        call("test").from(NUMBER, 0, 4095).from(NUMBER, 1, 99).byFull().go();
        call("cover").from(NUMBER, 0, 4095).from(NO_SUCH, 0, 1).go();
        call("part").from(NUMBER, 0, 9999).from(NUMBER, 1, 9999).byFull().go();
        call("age").from(NUMBER, 1, 9999).go();
        call("days").numbered(shape.count(10)).from(NUMBER, 1, 24).go();
        call("first").from(NUMBER, 1, 24).by(situation.hasLists() ? 0 : NOT_NOW).go();
    }

    private void more() {
        call("restart").weight().point(0).byTrack().go();
        call("valley").free(-1).byTrack().go();
        call("group").from(NUMBER, 1, 8).from(NUMBER, 50, 220).byFull().go();
        call("trains").from(NUMBER, 1, 40).from(NUMBER, 50, 220).free(-1).go();
    }

    private void crossings() {
        call("cross").weight().point(0).trainCount().from(NUMBER, 1, 999).from(NUMBER, 0, 999).from(NUMBER, 1, 999)
            .from(NUMBER, 0, 99).byTrack().go();
        call("clear").weight().point(0).trainCount().from(NUMBER, 0, 999).from(NUMBER, 1, 999).from(NUMBER, 0, 99)
            .byTrack().go();
        call("stay").from(NO_SUCH, 0, 3).block().from(NUMBER, 0, 9999).from(NUMBER, 0, 99).byFull().byTrack().go();
        call("led").numbered(shape.count(13)).weight().go();
        call("leads").from(NO_SUCH, 0, 3).weight().byTrack().go();
        call("quiet").go();
        boolean isFirst = shape.count(14) == 0;
        call("grow").from(NUMBER, isFirst ? 1 : 7, isFirst ? 20 : 7).from(NUMBER, 1, 99999).from(NUMBER, 0, 99)
            .byFull().byTrack().go();
        call("growths").free(-1).by(isFirst ? NOT_NOW : 0).go();
        call("foretold").from(NUMBER, 0, 99).free(1).by(isFirst ? NOT_NOW : 0).go();
    }

    private void people() {
        call("operator").from(NUMBER, 0, 63).from(NUMBER, 0, 23).to(NUMBER, 0, 23).byFull().go();
        call("operator").from(NUMBER, 0, 63).only(9).to(NUMBER, 9, 23).byFull().go();
        call("operator").from(NUMBER, 0, 63).from(NUMBER, 0, 9).only(9).byFull().go();
        call("crew").from(NUMBER, 0, 23).from(NO_SUCH, 0, 1).byTrack().go();
        call("bare").byTrack().go();
        call("lift").numbered(shape.count(2)).weight().from(NUMBER, 1, 999).go();
        call("slips").numbered(shape.count(2)).weight().go();
        call("stretched").weight().from(NO_SUCH, 0, 5).byTrack().go();
        call("riders").weight().trainCount().from(NUMBER, 0, 999).from(NUMBER, 0, 99).from(NUMBER, 1, 40).byTrack().go();
    }

    private void rows() {
        call("store").from(NO_SUCH, 0, 3).from(NO_SUCH, 0, 3).from(NUMBER, 0, 60).go();
        int most = situation == Situation.FULL ? 60 : situation == Situation.SHORT ? 2 : 6;
        call("write").from(NO_SUCH, 0, 3).numberOfRow(most).free(1).byRows().go();
        call("storm").from(NO_SUCH, 0, 3).weight().byTrack().byRows().go();
        call("keep").from(NO_SUCH, 0, 3).weight().byTrack().byRows().by(situation == Situation.SHORT ? TOO_FEW : 0).go();
        call("image").from(NO_SUCH, 0, 1).go();
        call("restore").from(NO_SUCH, 0, 1).by(situation.hasLists() ? 0 : NOT_NOW).go();
        call("count").free(0).go();
    }

    // ---- how a call is told

    private RefusedTest call(String of) {
        name = of;
        ground = 0;
        arguments.clear();
        return this;
    }

    /** From low to high, low being usual. */
    private RefusedTest from(int code, long low, long high) {
        return argument(code, low, low, high);
    }

    /** From low to high, high being usual. */
    private RefusedTest to(int code, long low, long high) {
        return argument(code, high, low, high);
    }

    private RefusedTest argument(int code, long usual, long low, long high) {
        long[] refused = {low - 1, high + 1, Integer.MIN_VALUE, Integer.MAX_VALUE};
        arguments.add(new Argument(code, usual, new long[] {low, high}, refused));
        return this;
    }

    /** From 0 on; the call is refused for high, too, if there is no TRACK. */
    private RefusedTest notAbove(int code, long low, long high) {
        long[] taken = situation.hasTrack() ? new long[] {low, high} : new long[] {low};
        arguments.add(new Argument(code, low, taken, new long[] {low - 1, high + 1, Integer.MIN_VALUE, Integer.MAX_VALUE}));
        return this;
    }

    /** Its greatest value hangs on another argument. */
    private RefusedTest notBelow(int code, long low) {
        arguments.add(new Argument(code, low, new long[0], new long[] {low - 1, Integer.MIN_VALUE}));
        return this;
    }

    private RefusedTest weight() {
        return from(NUMBER, 1, 20);
    }

    private RefusedTest trainCount() {
        return from(NUMBER, 1, 10);
    }

    /** Whatever it is, the call isn't refused for it. */
    private RefusedTest free(long usual) {
        long[] taken = {-2, -1, 0, 1, 9, Integer.MIN_VALUE, Integer.MAX_VALUE};
        arguments.add(new Argument(0, usual, taken, new long[0]));
        return this;
    }

    private RefusedTest only(long usual) {
        arguments.add(new Argument(0, usual, new long[0], new long[0]));
        return this;
    }

    /** A POINT that isn't one of the first or last so many; without a TRACK it isn't looked at. */
    private RefusedTest point(int butEnds) {
        return point(butEnds, butEnds);
    }

    private RefusedTest point(int butEnds, long usual) {
        return situation.hasTrack() ? argument(NO_SUCH, usual, butEnds, shape.count(0) - 1 - butEnds) : free(-9);
    }

    private RefusedTest block() {
        return situation.hasTrack() ? from(NO_SUCH, 0, shape.count(1) - 1) : free(-9);
    }

    private RefusedTest bits() {
        return situation.hasTrack() ? from(NUMBER, 0, (1 << shape.count(1)) - 1) : free(-9);
    }

    /** One of those that are numbered as they come, or as told; where there are none, each is refused. */
    private RefusedTest numbered(int size) {
        return size > 0 ? from(NO_SUCH, 0, size - 1) : only(0).by(NO_SUCH);
    }

    private RefusedTest numberOfRow(int size) {
        return situation.hasRows() ? from(TOO_FEW, 0, size - 1) : free(-9);
    }

    /** The situation refuses the call; of two such grounds the first that is told here counts. */
    private RefusedTest by(int code) {
        ground = ground == 0 ? code : ground;
        return this;
    }

    private RefusedTest byTrack() {
        return by(situation.hasTrack() ? 0 : NOT_NOW);
    }

    private RefusedTest byFull() {
        return by(situation == Situation.FULL ? FULL : 0);
    }

    private RefusedTest byRows() {
        return by(situation.hasRows() ? 0 : MISSING);
    }

    // ---- what is asked

    private void goIf(boolean is) {
        if (is) {
            go();
        }
    }

    private void go() {
        Check.promise("refused, " + situation + " " + name);
        List<long[]> refused = refusedCalls();
        for (int at = 0; at < refused.size(); at += MOST_CALLS) {
            refuse(refused.subList(at, Math.min(refused.size(), at + MOST_CALLS)));
        }
        if (ground == 0) {
            take(usual());
            for (int i = 0; i < arguments.size(); i++) {
                for (long edge : arguments.get(i).taken()) {
                    long[] with = usual();
                    with[i] = edge;
                    take(with);
                }
            }
        }
    }

    private long[] usual() {
        return arguments.stream().mapToLong(Argument::usual).toArray();
    }

    /** Each argument wrong alone in each way, and each set of them wrong together; with the code that is due behind. */
    private List<long[]> refusedCalls() {
        List<long[]> all = new ArrayList<>();
        for (int set = ground == 0 ? 1 : 0; set < 1 << arguments.size(); set++) {
            int ways = Integer.bitCount(set) == 1 ? 4 : 2;
            for (int way = 0; way < ways; way++) {
                long[] with = Arrays.copyOf(usual(), arguments.size() + 1);
                int code = ground;
                boolean isWrong = true;
                for (int i = 0; i < arguments.size(); i++) {
                    Argument a = arguments.get(i);
                    if ((set >> i & 1) == 1) {
                        isWrong = isWrong && a.refused().length > 0;
                        with[i] = a.refused().length == 0 ? a.usual() : a.refused()[way % a.refused().length];
                        code = code == 0 || a.code() > code ? a.code() : code;
                    }
                }
                with[arguments.size()] = code;
                if (isWrong) {
                    all.add(with);
                }
            }
        }
        return all;
    }

    /** Tells them all to one object: none may change anything. */
    private void refuse(List<long[]> calls) {
        for (int chapter = 0; chapter < Situation.chapters(); chapter++) {
            CoasterDay x = situation.make();
            Model m = situation.makeModel();
            for (long[] c : calls) {
                long[] with = Arrays.copyOf(c, arguments.size());
                long due = c[arguments.size()];
                Check.due(told(with), Reflect.call(x, name, with), due);
                if (chapter == 0) {
                    Check.due("the model, " + told(with), Reflect.call(m, name, with), due);
                }
            }
            String other = Situation.difference(x, situation.make(), chapter);
            Check.due("nothing changed, but " + other, other.length(), 0);
        }
    }

    /** A call that isn't refused: the model tells the answer. */
    private void take(long[] with) {
        CoasterDay x = situation.make();
        Model m = situation.makeModel();
        long got = Reflect.call(x, name, with);
        Check.due(told(with), got, Reflect.call(m, name, with));
        boolean isCode = got <= NO_SUCH && got >= TOO_FEW && !name.equals("write");
        Check.due(told(with) + " answered " + got + ", is a code", isCode ? 1 : 0, 0);
        for (int what = 0; what <= 15; what++) {
            Check.due("count(" + what + ") behind " + told(with), x.count(what), m.count(what));
        }
    }

    private String told(long[] with) {
        return name + Arrays.toString(with);
    }
}
