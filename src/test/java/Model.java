import java.util.ArrayList;
import java.util.Arrays;
import java.util.HashMap;
import java.util.List;
import java.util.Map;
import java.util.TreeMap;

/** The document once more, written another way and without regard to cost, to compare the class with. */
final class Model {
    static final class Fault extends RuntimeException {
        private static final long serialVersionUID = 1L;
        final int kind;
        final int place;

        Fault(int kind, int place) {
            super(null, null, false, false);
            this.kind = kind;
            this.place = place;
        }
    }

    record Token(char kind, String text, int place) {
    }

    record Rule(int block, Fact test) {
    }

    /** kind: 'f' free, 'n' not, 'a' and, 'o' or. */
    record Fact(char kind, int block, List<Fact> of) {
        boolean holds(int shown) {
            switch (kind) {
                case 'f': return (shown >> block & 1) == 1;
                case 'n': return !of.get(0).holds(shown);
                case 'a': return of.stream().allMatch(f -> f.holds(shown));
                default: return of.stream().anyMatch(f -> f.holds(shown));
            }
        }
    }

    static final class State implements Cloneable {
        List<Integer> high = null;
        List<Integer> blocks = new ArrayList<>();
        List<int[]> chains = new ArrayList<>();
        List<int[]> dogs = new ArrayList<>();
        int drag;
        int push;
        List<Rule> rules = new ArrayList<>();
        List<int[]> log = new ArrayList<>();
        List<Integer> stairs = new ArrayList<>();
        List<int[]> tests = new ArrayList<>();
        List<int[]> parts = new ArrayList<>();
        List<int[]> groups = new ArrayList<>();
        List<int[]> stays = new ArrayList<>();
        List<int[]> entries = new ArrayList<>();
        List<int[]> operators = new ArrayList<>();
        int[] stretch = new int[2];

        State copy() {
            State o = new State();
            o.high = high;
            o.blocks = blocks;
            o.chains = chains;
            o.dogs = dogs;
            o.drag = drag;
            o.push = push;
            o.rules = rules;
            o.log = new ArrayList<>(log);
            o.stairs = new ArrayList<>(stairs);
            o.tests = new ArrayList<>(tests);
            o.parts = new ArrayList<>();
            for (int[] p : parts) {
                o.parts.add(p.clone());
            }
            o.groups = new ArrayList<>(groups);
            o.stays = new ArrayList<>(stays);
            o.entries = new ArrayList<>(entries);
            o.operators = new ArrayList<>(operators);
            o.stretch = stretch.clone();
            return o;
        }
    }

    private List<Integer> tape = new ArrayList<>();
    private int faultKind = 0;
    private int faultPlace = -1;
    State s = new State();
    private final State[] images = new State[2];
    private final long[][] rows = new long[4][];
    private final int[] sorts = new int[4];

    // ---- the texts

    int feed(int a, int b, int c, int d, int e) {
        if (tape.size() > 380) {
            return -4;
        }
        for (int v : new int[] {a, b, c, d, e}) {
            tape.add(v >> 24 & 255);
            tape.add(v >> 16 & 255);
            tape.add(v >> 8 & 255);
            tape.add(v & 255);
        }
        return tape.size();
    }

    int text(int what, int n) {
        if (what != 0 && what != 1) {
            return -2;
        }
        if (n < 0 || n > tape.size()) {
            return -3;
        }
        if (what == 1 && s.high == null) {
            return -5;
        }
        StringBuilder text = new StringBuilder();
        for (int v : tape.subList(0, n)) {
            text.append((char) v);
        }
        tape = new ArrayList<>();
        faultKind = 0;
        faultPlace = -1;
        try {
            List<Token> tokens = tokens(text.toString());
            return what == 0 ? track(tokens) : controller(tokens);
        } catch (Fault f) {
            faultKind = f.kind;
            faultPlace = f.place;
            return -10 - f.kind;
        }
    }

    int fault(int what) {
        return what == 0 ? faultKind : what == 1 ? faultPlace : -1;
    }

    private static List<Token> tokens(String text) {
        List<Token> all = new ArrayList<>();
        int at = 0;
        while (at < text.length()) {
            String rest = text.substring(at);
            String blank = rest.replaceFirst("^[\\n ]+", "");
            if (blank.length() < rest.length()) {
                at += rest.length() - blank.length();
                continue;
            }
            String word = rest.replaceFirst("(?s)^([a-z]+).*$", "$1");
            String digits = rest.replaceFirst("(?s)^([0-9]+).*$", "$1");
            if (word.matches("[a-z]+")) {
                all.add(new Token('w', word, at));
                at += word.length();
            } else if (digits.matches("[0-9]{1,3}")) {
                all.add(new Token('n', digits, at));
                at += digits.length();
            } else if (";()".indexOf(rest.charAt(0)) >= 0) {
                all.add(new Token('s', rest.substring(0, 1), at));
                at++;
            } else {
                all.add(new Token('x', "", at));
                return all;
            }
        }
        all.add(new Token('e', "", text.length()));
        return all;
    }

    private List<Token> in;
    private int pos;

    private Token peek() {
        Token t = in.get(pos);
        if (t.kind() == 'x') {
            throw new Fault(1, t.place());
        }
        return t;
    }

    private boolean isWord(String w) {
        return peek().kind() != 'e' && peek().kind() != 'n' && peek().text().equals(w);
    }

    private void must(String w) {
        if (!isWord(w)) {
            throw new Fault(2, peek().place());
        }
        pos++;
    }

    private int number(int low, int high) {
        Token t = peek();
        if (t.kind() != 'n') {
            throw new Fault(2, t.place());
        }
        int v = Integer.parseInt(t.text());
        if (v < low || v > high) {
            throw new Fault(3, t.place());
        }
        pos++;
        return v;
    }

    private int track(List<Token> tokens) {
        in = tokens;
        pos = 0;
        State n = new State();
        n.high = new ArrayList<>();
        n.drag = -1;
        n.push = -1;
        while (peek().kind() != 'e') {
            line(n);
            must(";");
        }
        if (n.high.size() < 2) {
            throw new Fault(2, peek().place());
        }
        n.drag = n.drag < 0 ? 10 : n.drag;
        n.push = n.push < 0 ? 0 : n.push;
        n.tests = s.tests;
        n.parts = s.parts;
        n.groups = s.groups;
        n.operators = s.operators;
        s = n;
        return n.high.size();
    }

    private void line(State n) {
        Token first = peek();
        int points = n.high.size();
        switch (first.kind() == 'w' ? first.text() : "") {
            case "high":
                pos++;
                do {
                    int h = number(0, 99);
                    if (n.high.size() == 60) {
                        throw new Fault(5, in.get(pos - 1).place());
                    }
                    n.high.add(h);
                } while (peek().kind() == 'n');
                break;
            case "block":
                most(n.blocks.size() < 5, 5, first);
                n.blocks.add(number(n.blocks.isEmpty() ? 1 : n.blocks.get(n.blocks.size() - 1) + 1, points - 1));
                break;
            case "chain": {
                most(n.chains.size() < 2, 5, first);
                int from = number(0, points - 1);
                must("to");
                int to = number(from + 1, points - 1);
                must("speed");
                n.chains.add(new int[] {from, to, number(0, 999)});
                break;
            }
            case "dog": {
                most(n.dogs.size() < 2, 5, first);
                int from = number(0, points - 1);
                must("to");
                n.dogs.add(new int[] {from, number(from + 1, points - 1)});
                break;
            }
            case "drag":
                most(n.drag < 0, 4, first);
                n.drag = number(0, 50);
                break;
            case "push":
                most(n.push < 0, 4, first);
                n.push = number(0, 999);
                break;
            default:
                throw new Fault(2, first.place());
        }
    }

    private void most(boolean room, int kind, Token first) {
        if (!room) {
            throw new Fault(kind, first.place());
        }
        pos++;
    }

    private int controller(List<Token> tokens) {
        in = tokens;
        pos = 0;
        List<Rule> rules = new ArrayList<>();
        while (peek().kind() != 'e') {
            if (isWord("leave") && rules.size() == 12) {
                throw new Fault(4, peek().place());
            }
            must("leave");
            int block = number(0, blockCount() - 1);
            must("if");
            rules.add(new Rule(block, test(0)));
            must(";");
        }
        s.rules = rules;
        return rules.size();
    }

    private Fact test(int open) {
        List<Fact> of = new ArrayList<>(List.of(part(open)));
        while (isWord("or")) {
            pos++;
            of.add(part(open));
        }
        return new Fact('o', 0, of);
    }

    private Fact part(int open) {
        List<Fact> of = new ArrayList<>(List.of(fact(open)));
        while (isWord("and")) {
            pos++;
            of.add(fact(open));
        }
        return new Fact('a', 0, of);
    }

    private Fact fact(int open) {
        if (isWord("free")) {
            pos++;
            return new Fact('f', number(0, blockCount() - 1), List.of());
        }
        boolean not = isWord("not");
        if (!not && !isWord("(")) {
            throw new Fault(2, peek().place());
        }
        if (open + 1 == 9) {
            throw new Fault(5, peek().place());
        }
        pos++;
        if (not) {
            return new Fact('n', 0, List.of(fact(open + 1)));
        }
        Fact inside = test(open + 1);
        must(")");
        return inside;
    }

    // ---- a RUN

    static final class Run {
        int end = -1;
        int ticks;
        int at;
        int turns;
        int speed;
        int top;
        Map<Integer, int[]> firsts = new TreeMap<>();

        int what(int what) {
            return new int[] {end, ticks, at, turns, speed, top}[what];
        }
    }

    private Run go(int drag, int weight, int wind, int cold, int from, int start, int[] slip) {
        Run r = new Run();
        int loss = (10 * drag + 2 * wind + cold) / weight;
        int last = s.high.size() - 1;
        r.at = from;
        r.speed = start;
        r.top = start;
        r.firsts.put(from, new int[] {start, 0});
        boolean back = false;
        int steps = 0;
        int turnsHere = 0;
        while (true) {
            if (r.at == last) {
                r.end = 0;
                return r;
            }
            if (turnsHere == 2 || steps == 300) {
                r.end = 1;
                return r;
            }
            int chain = -1;
            for (int c = s.chains.size() - 1; c >= 0; c--) {
                if (r.at >= s.chains.get(c)[0] && r.at < s.chains.get(c)[1]) {
                    chain = c;
                }
            }
            steps++;
            int to = back ? r.at - 1 : r.at + 1;
            int speed;
            if (back) {
                for (int[] d : s.dogs) {
                    if (r.at > d[0] && r.at <= d[1]) {
                        r.end = 2;
                        return r;
                    }
                }
                speed = chain >= 0 || r.at == 0 ? -1 : r.speed + 10 * (s.high.get(r.at) - s.high.get(to)) - loss;
            } else if (chain >= 0) {
                speed = Math.max(0, s.chains.get(chain)[2] - slip[chain]);
            } else {
                speed = r.speed + 10 * (s.high.get(r.at) - s.high.get(to)) - loss;
            }
            if (speed < 0) {
                back = !back;
                r.turns++;
                turnsHere++;
                continue;
            }
            turnsHere = 0;
            r.speed = Math.min(999, speed);
            r.top = Math.max(r.top, r.speed);
            r.at = to;
            r.ticks += 1 + 40 / (4 + r.speed);
            r.firsts.putIfAbsent(to, new int[] {r.speed, r.ticks});
        }
    }

    private Run go(int weight, int wind, int cold) {
        return go(s.drag, weight, wind, cold, 0, s.push, new int[2]);
    }

    /** TICKS of a RUN with another drag, without WIND and COLD; for tests that make a LOG. */
    int ticksBy(int drag, int weight) {
        return none() || !weighs(weight) ? 1 : Math.max(1, go(drag, weight, 0, 0, 0, s.push, new int[2]).ticks);
    }

    private static boolean in(int v, int low, int high) {
        return v >= low && v <= high;
    }

    private static boolean weighs(int w) {
        return in(w, 1, 20);
    }

    private boolean none() {
        return s.high == null;
    }

    private boolean wrongPoint(int p) {
        return !none() && !in(p, 0, s.high.size() - 1);
    }

    private int blockCount() {
        return none() ? 0 : s.blocks.size() + 1;
    }

    private boolean wrongBlock(int b) {
        return !none() && !in(b, 0, blockCount() - 1);
    }

    private boolean wrongBits(int bits) {
        return !none() && !in(bits, 0, (1 << blockCount()) - 1);
    }

    int run(int weight, int wind, int cold, int what) {
        if (!in(what, 0, 5)) {
            return -2;
        }
        if (!weighs(weight) || !in(wind, 0, 99) || !in(cold, 0, 99)) {
            return -3;
        }
        return none() ? -5 : go(weight, wind, cold).what(what);
    }

    int speed(int weight, int point) {
        if (wrongPoint(point)) {
            return -2;
        }
        if (!weighs(weight)) {
            return -3;
        }
        if (none()) {
            return -5;
        }
        int[] first = go(weight, 0, 0).firsts.get(point);
        return first == null ? -1 : first[0];
    }

    int point(int point, int what) {
        if (wrongPoint(point) || !in(what, 0, 1)) {
            return -2;
        }
        if (none()) {
            return -5;
        }
        if (what == 0) {
            return s.high.get(point);
        }
        int block = 0;
        while (block < s.blocks.size() && s.blocks.get(block) <= point) {
            block++;
        }
        return block;
    }

    private int feel(Run r, int p, int seat) {
        int[] first = r.firsts.get(p + seat);
        return first == null ? -100000
            : 10 + first[0] * (s.high.get(p - 1) + s.high.get(p + 1) - 2 * s.high.get(p)) / 20;
    }

    int felt(int weight, int point, int seat) {
        if (!in(seat, 0, 9) || (!none() && !in(point, 1, s.high.size() - 2))) {
            return -2;
        }
        if (!weighs(weight)) {
            return -3;
        }
        return none() ? -5 : feel(go(weight, 0, 0), point, seat);
    }

    int feels(int weight, int seat, boolean most) {
        if (!in(seat, 0, 9)) {
            return -2;
        }
        if (!weighs(weight)) {
            return -3;
        }
        if (none()) {
            return -5;
        }
        Run r = go(weight, 0, 0);
        List<Integer> all = new ArrayList<>();
        for (int p = 1; p + 1 < s.high.size(); p++) {
            if (r.firsts.containsKey(p + seat)) {
                all.add(feel(r, p, seat));
            }
        }
        all.sort(null);
        return all.isEmpty() ? -100000 : all.get(most ? all.size() - 1 : 0);
    }

    int odds(int from, int to, int calm, int storm, int cold) {
        if (!weighs(from) || !weighs(to) || from > to || !in(calm, 0, 99) || !in(storm, 0, 99) || calm > storm
            || !in(cold, 0, 99)) {
            return -3;
        }
        if (none()) {
            return -5;
        }
        int found = 0;
        for (int w = from; w <= to; w++) {
            for (int v = calm; v <= storm; v++) {
                found += go(w, v, cold).end == 0 ? 0 : 1;
            }
        }
        return found;
    }

    // ---- blocks: how far each state is from an end, then down along the first EVENTS

    private boolean may(int trains, int[] lies, int b) {
        int n = blockCount();
        if (n == 1 || (trains >> b & 1) == 0) {
            return false;
        }
        int shown = 0;
        for (int k = 0; k < n; k++) {
            boolean free = lies[k] == 0 ? (trains >> k & 1) == 0 : lies[k] == 1;
            shown |= free ? 1 << k : 0;
        }
        boolean ruled = false;
        for (Rule r : s.rules) {
            ruled |= r.block() == b;
            if (r.block() == b && r.test().holds(shown)) {
                return true;
            }
        }
        return !ruled && (shown >> (b + 1) % n & 1) == 1;
    }

    private static String key(int trains, int[] lies) {
        return trains + Arrays.toString(lies);
    }

    private record Next(int event, String key) {
    }

    /** All states that can be, each with its EVENTS in order; key null: a crash. */
    private void spread(int trains, int[] lies, int most, Map<String, List<Next>> all, Map<String, Boolean> stops) {
        String here = key(trains, lies);
        if (all.containsKey(here)) {
            return;
        }
        List<Next> nexts = new ArrayList<>();
        all.put(here, nexts);
        int n = blockCount();
        boolean stop = true;
        for (int b = 0; b < n; b++) {
            if (may(trains, lies, b)) {
                stop = false;
                int to = (b + 1) % n;
                int moved = trains & ~(1 << b) | 1 << to;
                boolean crash = (trains >> to & 1) == 1;
                nexts.add(new Next(b, crash ? null : key(moved, lies)));
                if (!crash) {
                    spread(moved, lies, most, all, stops);
                }
            }
        }
        stops.put(here, stop);
        long lying = Arrays.stream(lies).filter(v -> v != 0).count();
        for (int as = 1; as <= 2 && lying < most; as++) {
            for (int b = 0; b < n; b++) {
                if (lies[b] == 0) {
                    int[] more = lies.clone();
                    more[b] = as;
                    nexts.add(new Next(10 * as + b, key(trains, more)));
                    spread(trains, more, most, all, stops);
                }
            }
        }
    }

    int row(int what, int trains, int lies, int i) {
        if (!in(what, 0, 1)) {
            return -2;
        }
        if (wrongBits(trains) || !in(lies, 0, 3)) {
            return -3;
        }
        if (none()) {
            return -5;
        }
        List<Integer> found = trains == 0 ? null : shortest(what, trains, lies);
        if (found == null) {
            return -1;
        }
        return i == -1 ? found.size() : in(i, 0, found.size() - 1) ? found.get(i) : -1;
    }

    private List<Integer> shortest(int what, int trains, int lies) {
        Map<String, List<Next>> all = new HashMap<>();
        Map<String, Boolean> stops = new HashMap<>();
        int[] honest = new int[blockCount()];
        spread(trains, honest, lies, all, stops);
        Map<String, Integer> far = new HashMap<>();
        if (what == 1) {
            stops.forEach((k, stop) -> {
                if (stop) {
                    far.put(k, 0);
                }
            });
        }
        boolean changed = true;
        while (changed) {
            changed = false;
            for (Map.Entry<String, List<Next>> e : all.entrySet()) {
                int best = far.getOrDefault(e.getKey(), 1 << 20);
                for (Next n : e.getValue()) {
                    int then = n.key() == null ? (what == 0 ? 0 : 1 << 20) : far.getOrDefault(n.key(), 1 << 20);
                    if (then + 1 < best) {
                        best = then + 1;
                        far.put(e.getKey(), best);
                        changed = true;
                    }
                }
            }
        }
        String at = key(trains, honest);
        if (!far.containsKey(at)) {
            return null;
        }
        List<Integer> row = new ArrayList<>();
        while (at != null && far.get(at) > 0) {
            int left = far.get(at);
            for (Next n : all.get(at)) {
                int then = n.key() == null ? (what == 0 ? 0 : 1 << 20) : far.getOrDefault(n.key(), 1 << 20);
                if (then == left - 1) {
                    row.add(n.event());
                    at = n.key();
                    break;
                }
            }
        }
        return row;
    }

    int leaves(int trains, int block) {
        if (wrongBlock(block)) {
            return -2;
        }
        if (wrongBits(trains)) {
            return -3;
        }
        return none() ? -5 : may(trains, new int[blockCount()], block) ? 1 : 0;
    }

    // ---- dispatch, log

    private int[] times(int weight) {
        Run r = go(weight, 0, 0);
        if (r.end != 0) {
            return null;
        }
        List<Integer> ends = new ArrayList<>(s.blocks);
        ends.add(0, 0);
        ends.add(s.high.size() - 1);
        int[] t = new int[blockCount()];
        for (int b = 0; b < t.length; b++) {
            t[b] = r.firsts.get(ends.get(b + 1))[1] - r.firsts.get(ends.get(b))[1];
        }
        return t;
    }

    int time(int weight, int block) {
        if (wrongBlock(block)) {
            return -2;
        }
        if (!weighs(weight)) {
            return -3;
        }
        if (none()) {
            return -5;
        }
        int[] t = times(weight);
        return t == null ? -1 : t[block];
    }

    private static int held(int[] time, int n, int beat, int which, int late) {
        int[][] left = new int[n][time.length];
        int held = 0;
        for (int k = 0; k < n; k++) {
            int start = k * beat;
            if (k == which) {
                start += late;
            }
            int enters = k == 0 ? start : Math.max(start, left[k - 1][0]);
            for (int b = 0; b < time.length; b++) {
                int through = enters + time[b];
                left[k][b] = through;
                if (k > 0 && b < time.length - 1 && left[k - 1][b + 1] > through) {
                    left[k][b] = left[k - 1][b + 1];
                    held++;
                }
                enters = left[k][b];
            }
        }
        return held;
    }

    int holds(int weight, int n, int beat, int which, int late) {
        if (which != -1 && !(which >= 0 && which < n)) {
            return -2;
        }
        if (!weighs(weight) || !in(n, 1, 10) || !in(beat, 1, 999) || !in(late, 0, 999)) {
            return -3;
        }
        if (none()) {
            return -5;
        }
        int[] t = times(weight);
        return t == null ? -1 : held(t, n, beat, which, late);
    }

    int beat(int weight, int n, int late, int most) {
        if (!weighs(weight) || !in(n, 1, 10) || !in(late, 0, 999) || !in(most, 0, 99)) {
            return -3;
        }
        if (none()) {
            return -5;
        }
        int[] t = times(weight);
        for (int beat = 1; t != null && beat <= 999; beat++) {
            int worst = 0;
            for (int which = 0; which < n; which++) {
                worst = Math.max(worst, held(t, n, beat, which, late));
            }
            if (worst <= most) {
                return beat;
            }
        }
        return -1;
    }

    int log(int train, int weight, int ticks, int off) {
        if (!in(train, 0, 3)) {
            return -2;
        }
        if (!weighs(weight) || !in(ticks, 1, 99999) || !in(off, 0, 99)) {
            return -3;
        }
        if (s.log.size() == 12) {
            return -4;
        }
        if (none()) {
            return -5;
        }
        s.log.add(new int[] {train, weight, ticks, off});
        return s.log.size();
    }

    private List<Integer> pairs() {
        List<Integer> all = new ArrayList<>();
        for (int pair = 0; pair < 51 * 5; pair++) {
            int drag = pair / 5;
            int worn = pair % 5 - 1;
            boolean fits = true;
            for (int[] l : s.log) {
                fits = fits && like(go(l[0] == worn ? drag + 10 : drag, l[1], 0, 0, 0, s.push, new int[2]), l[2], l[3]);
            }
            if (fits) {
                all.add(10 * drag + worn + 1);
            }
        }
        return all;
    }

    private static boolean like(Run r, int ticks, int off) {
        return r.end == 0 && r.ticks >= ticks - off && r.ticks <= ticks + off;
    }

    private static int ith(List<Integer> all, int i) {
        return i == -1 ? all.size() : in(i, 0, all.size() - 1) ? all.get(i) : -1;
    }

    int fits(int i) {
        return none() ? -5 : ith(pairs(), i);
    }

    int worn() {
        if (none()) {
            return -5;
        }
        int[] kinds = pairs().stream().mapToInt(v -> v % 10).distinct().toArray();
        return kinds.length != 1 ? -1 : kinds[0] == 0 ? 9 : kinds[0] - 1;
    }

    // ---- stairs, tests, parts

    int stair(int point) {
        if (wrongPoint(point)) {
            return -2;
        }
        if (s.stairs.contains(point)) {
            return -3;
        }
        if (s.stairs.size() == 6) {
            return -4;
        }
        if (none()) {
            return -5;
        }
        s.stairs.add(point);
        return s.stairs.size();
    }

    private int way(int p, int q) {
        return Math.abs(p - q) + Math.abs(s.high.get(p) - s.high.get(q)) / 5;
    }

    int walk(int point, int what) {
        if (wrongPoint(point) || !in(what, 0, 1)) {
            return -2;
        }
        if (none()) {
            return -5;
        }
        List<Integer> sorted = new ArrayList<>(s.stairs);
        sorted.sort((p, q) -> way(point, p) != way(point, q) ? way(point, p) - way(point, q) : p - q);
        return sorted.isEmpty() ? -1 : what == 0 ? way(point, sorted.get(0)) : sorted.get(0);
    }

    private int worstOf(List<Integer> stairs) {
        int worst = 0;
        for (int p = 0; p < s.high.size(); p++) {
            int least = 1 << 20;
            for (int q : stairs) {
                least = Math.min(least, way(p, q));
            }
            worst = Math.max(worst, least);
        }
        return worst;
    }

    int worst(int what) {
        if (!in(what, 0, 1)) {
            return -2;
        }
        if (none()) {
            return -5;
        }
        if (what == 0) {
            return s.stairs.isEmpty() ? -1 : worstOf(s.stairs);
        }
        int best = -1;
        int least = 1 << 20;
        for (int p = 0; p < s.high.size(); p++) {
            List<Integer> more = new ArrayList<>(s.stairs);
            more.add(p);
            if (worstOf(more) < least) {
                least = worstOf(more);
                best = p;
            }
        }
        return best;
    }

    int test(int covers, int cost) {
        if (!in(covers, 0, 4095) || !in(cost, 1, 99)) {
            return -3;
        }
        if (s.tests.size() == 10) {
            return -4;
        }
        s.tests.add(new int[] {covers, cost});
        return s.tests.size() - 1;
    }

    int cover(int set, int what) {
        if (!in(what, 0, 1)) {
            return -2;
        }
        if (!in(set, 0, 4095)) {
            return -3;
        }
        long best = Long.MAX_VALUE;
        for (int some = 0; some < 1 << s.tests.size(); some++) {
            int covers = 0;
            long cost = 0;
            for (int k = 0; k < s.tests.size(); k++) {
                if ((some >> k & 1) == 1) {
                    covers |= s.tests.get(k)[0];
                    cost += s.tests.get(k)[1];
                }
            }
            if ((set & ~covers) == 0) {
                best = Math.min(best, (cost * 100 + Integer.bitCount(some)) * 10000 + some);
            }
        }
        return best == Long.MAX_VALUE ? -1 : (int) (what == 0 ? best / 1000000 : best % 10000);
    }

    int part(int hours, int most) {
        if (!in(hours, 0, 9999) || !in(most, 1, 9999)) {
            return -3;
        }
        if (s.parts.size() == 8) {
            return -4;
        }
        s.parts.add(new int[] {hours, most});
        return s.parts.size() - 1;
    }

    int age(int hours) {
        if (!in(hours, 1, 9999)) {
            return -3;
        }
        int over = 0;
        for (int[] p : s.parts) {
            p[0] += hours;
            over += p[0] > p[1] ? 1 : 0;
        }
        return over;
    }

    int days(int part, int hours) {
        if (!in(part, 0, s.parts.size() - 1)) {
            return -2;
        }
        if (!in(hours, 1, 24)) {
            return -3;
        }
        int[] p = s.parts.get(part);
        int d = 0;
        while (p[0] + (d + 1) * hours <= p[1]) {
            d++;
        }
        return d;
    }

    int first(int hours) {
        if (!in(hours, 1, 24)) {
            return -3;
        }
        int best = -5;
        for (int k = s.parts.size() - 1; k >= 0; k--) {
            if (best < 0 || days(k, hours) <= days(best, hours)) {
                best = k;
            }
        }
        return best;
    }

    // ---- more of the day

    int restart(int weight, int point) {
        if (wrongPoint(point)) {
            return -2;
        }
        if (!weighs(weight)) {
            return -3;
        }
        if (none()) {
            return -5;
        }
        for (int v = 0; v <= 999; v++) {
            if (go(s.drag, weight, 0, 0, point, v, new int[2]).end == 0) {
                return v;
            }
        }
        return -1;
    }

    int valley(int i) {
        if (none()) {
            return -5;
        }
        List<Integer> all = new ArrayList<>();
        for (int p = 1; p < s.high.size() - 1; p++) {
            if (s.high.get(p) < Math.min(s.high.get(p - 1), s.high.get(p + 1))) {
                all.add(p);
            }
        }
        return ith(all, i);
    }

    int group(int size, int height) {
        if (!in(size, 1, 8) || !in(height, 50, 220)) {
            return -3;
        }
        if (s.groups.size() == 10) {
            return -4;
        }
        s.groups.add(new int[] {size, height});
        return s.groups.size() - 1;
    }

    private List<Integer> bestTrains;

    int trains(int seats, int height, int i) {
        if (!in(seats, 1, 40) || !in(height, 50, 220)) {
            return -3;
        }
        List<Integer> riding = new ArrayList<>();
        for (int k = 0; k < s.groups.size(); k++) {
            if (s.groups.get(k)[1] >= height) {
                if (s.groups.get(k)[0] > seats) {
                    return -1;
                }
                riding.add(k);
            }
        }
        bestTrains = null;
        seat(riding, 0, seats, new ArrayList<>(), new ArrayList<>());
        return ith(bestTrains, i);
    }

    /** Every way to put GROUPS, one after another, into TRAINS that are there or a new one. */
    private void seat(List<Integer> riding, int k, int seats, List<Integer> trains, List<Integer> loads) {
        if (bestTrains != null && trains.size() > bestTrains.size()) {
            return;
        }
        if (k == riding.size()) {
            if (bestTrains == null || isBefore(trains, bestTrains)) {
                bestTrains = new ArrayList<>(trains);
            }
            return;
        }
        int g = riding.get(k);
        int size = s.groups.get(g)[0];
        for (int t = 0; t < trains.size(); t++) {
            if (loads.get(t) + size <= seats) {
                trains.set(t, trains.get(t) | 1 << g);
                loads.set(t, loads.get(t) + size);
                seat(riding, k + 1, seats, trains, loads);
                trains.set(t, trains.get(t) & ~(1 << g));
                loads.set(t, loads.get(t) - size);
            }
        }
        trains.add(1 << g);
        loads.add(size);
        seat(riding, k + 1, seats, trains, loads);
        trains.remove(trains.size() - 1);
        loads.remove(loads.size() - 1);
    }

    private static boolean isBefore(List<Integer> a, List<Integer> b) {
        if (a.size() != b.size()) {
            return a.size() < b.size();
        }
        for (int k = 0; k < a.size(); k++) {
            if (!a.get(k).equals(b.get(k))) {
                return a.get(k) < b.get(k);
            }
        }
        return false;
    }

    private int near(int comes, int n, int beat, int first, int every, int near) {
        int found = 0;
        for (int k = 0; k < n; k++) {
            int tick = comes + k * beat;
            boolean is = false;
            for (int other = first; other <= tick + near; other += every) {
                is |= Math.abs(other - tick) <= near;
            }
            found += is ? 1 : 0;
        }
        return found;
    }

    int cross(int weight, int point, int n, int beat, int first, int every, int near) {
        if (wrongPoint(point)) {
            return -2;
        }
        if (!weighs(weight) || !in(n, 1, 10) || !in(beat, 1, 999) || !in(first, 0, 999) || !in(every, 1, 999)
            || !in(near, 0, 99)) {
            return -3;
        }
        if (none()) {
            return -5;
        }
        int[] comes = go(weight, 0, 0).firsts.get(point);
        return comes == null ? -1 : near(comes[1], n, beat, first, every, near);
    }

    int clear(int weight, int point, int n, int first, int every, int near) {
        int wrong = cross(weight, point, n, 1, first, every, near);
        if (wrong < 0) {
            return wrong;
        }
        int comes = go(weight, 0, 0).firsts.get(point)[1];
        for (int beat = 1; beat <= 999; beat++) {
            if (near(comes, n, beat, first, every, near) == 0) {
                return beat;
            }
        }
        return -1;
    }

    int stay(int train, int block, int hour, int wind) {
        if (!in(train, 0, 3) || wrongBlock(block)) {
            return -2;
        }
        if (!in(hour, 0, 9999) || !in(wind, 0, 99)) {
            return -3;
        }
        if (s.stays.size() == 20) {
            return -4;
        }
        if (none()) {
            return -5;
        }
        s.stays.add(new int[] {train, block, hour, wind});
        return s.stays.size() - 1;
    }

    int led(int stay, int weight) {
        if (!in(stay, 0, s.stays.size() - 1)) {
            return -2;
        }
        if (!weighs(weight)) {
            return -3;
        }
        if (none()) {
            return -5;
        }
        int[] it = s.stays.get(stay);
        if (go(weight, it[3], 0).end != 0) {
            return 1;
        }
        double half = s.stays.size() / 2.0;
        if (s.stays.stream().filter(o -> o[0] == it[0]).count() > half) {
            return 2;
        }
        return s.stays.stream().filter(o -> o[1] == it[1]).count() > half ? 3 : 0;
    }

    int leads(int to, int weight) {
        if (!in(to, 0, 3)) {
            return -2;
        }
        if (!weighs(weight)) {
            return -3;
        }
        if (none()) {
            return -5;
        }
        int found = 0;
        for (int k = 0; k < s.stays.size(); k++) {
            found += led(k, weight) == to ? 1 : 0;
        }
        return found;
    }

    int quiet() {
        int greatest = -1;
        for (int train = 0; train < 4; train++) {
            int t = train;
            int[] hours = s.stays.stream().filter(o -> o[0] == t).mapToInt(o -> o[2]).sorted().toArray();
            for (int k = 1; k < hours.length; k++) {
                greatest = Math.max(greatest, hours[k] - hours[k - 1]);
            }
        }
        return greatest;
    }

    int grow(int weight, int ticks, int off) {
        if (!weighs(weight) || !in(ticks, 1, 99999) || !in(off, 0, 99)
            || (!s.entries.isEmpty() && s.entries.get(0)[0] != weight)) {
            return -3;
        }
        if (s.entries.size() == 20) {
            return -4;
        }
        if (none()) {
            return -5;
        }
        s.entries.add(new int[] {weight, ticks, off});
        return s.entries.size();
    }

    private Run grown(int growth, int day) {
        int drag = growth / 100 + growth % 100 * day / 10;
        return go(drag, s.entries.get(0)[0], 0, 0, 0, s.push, new int[2]);
    }

    private List<Integer> grownAll() {
        List<Integer> all = new ArrayList<>();
        for (int g = 0; g <= 5020; g++) {
            boolean fits = g % 100 <= 20;
            for (int k = 0; fits && k < s.entries.size(); k++) {
                fits = like(grown(g, k), s.entries.get(k)[1], s.entries.get(k)[2]);
            }
            if (fits) {
                all.add(g);
            }
        }
        return all;
    }

    int growths(int i) {
        return none() || s.entries.isEmpty() ? -5 : ith(grownAll(), i);
    }

    int foretold(int day, boolean most) {
        if (!in(day, 0, 99)) {
            return -3;
        }
        if (none() || s.entries.isEmpty()) {
            return -5;
        }
        List<Integer> all = new ArrayList<>();
        for (int g : grownAll()) {
            Run r = grown(g, day);
            if (r.end == 0) {
                all.add(r.ticks);
            }
        }
        all.sort(null);
        return all.isEmpty() ? -1 : all.get(most ? all.size() - 1 : 0);
    }

    int operator(int keys, int from, int to) {
        if (!in(keys, 0, 63) || !in(from, 0, 23) || !in(to, from, 23)) {
            return -3;
        }
        if (s.operators.size() == 8) {
            return -4;
        }
        s.operators.add(new int[] {keys, from, to});
        return s.operators.size() - 1;
    }

    private int crewSet(int hour) {
        int best = -1;
        for (int some = 255; some >= 0; some--) {
            int keys = 0;
            boolean there = true;
            for (int k = 0; k < 8; k++) {
                if ((some >> k & 1) == 1) {
                    there = there && k < s.operators.size() && in(hour, s.operators.get(k)[1], s.operators.get(k)[2]);
                    keys |= there ? s.operators.get(k)[0] : 0;
                }
            }
            boolean all = true;
            for (int b = 0; b < blockCount(); b++) {
                all &= (keys >> b & 1) == 1;
            }
            if (there && all && (best < 0 || Integer.bitCount(some) <= Integer.bitCount(best))) {
                best = some;
            }
        }
        return best;
    }

    int crew(int hour, int what) {
        if (!in(what, 0, 1)) {
            return -2;
        }
        if (!in(hour, 0, 23)) {
            return -3;
        }
        if (none()) {
            return -5;
        }
        int set = crewSet(hour);
        return set < 0 ? -1 : what == 0 ? Integer.bitCount(set) : set;
    }

    int bare() {
        if (none()) {
            return -5;
        }
        int hours = 0;
        for (int hour = 0; hour < 24; hour++) {
            hours |= crewSet(hour) < 0 ? 1 << hour : 0;
        }
        return hours;
    }

    int lift(int chain, int weight, int many) {
        if (!in(chain, 0, s.chains.size() - 1)) {
            return -2;
        }
        if (!weighs(weight) || !in(many, 1, 999)) {
            return -3;
        }
        s.stretch[chain] += weight * many;
        return s.stretch[chain];
    }

    int slips(int chain, int weight) {
        if (!in(chain, 0, s.chains.size() - 1)) {
            return -2;
        }
        if (!weighs(weight)) {
            return -3;
        }
        int many = 0;
        while ((s.stretch[chain] + many * weight) / 1000 < s.chains.get(chain)[2]) {
            many++;
        }
        return many;
    }

    int stretched(int weight, int what) {
        if (!in(what, 0, 5)) {
            return -2;
        }
        if (!weighs(weight)) {
            return -3;
        }
        if (none()) {
            return -5;
        }
        return go(s.drag, weight, 0, 0, 0, s.push, new int[] {s.stretch[0] / 1000, s.stretch[1] / 1000}).what(what);
    }

    int riders(int weight, int n, int late, int most, int seats) {
        if (!in(seats, 1, 40)) {
            return -3;
        }
        int beat = beat(weight, n, late, most);
        return beat < 0 ? beat : seats * 1000 / beat;
    }

    // ---- rows

    int store(int row, int sort, int n) {
        if (!in(row, 0, 3) || !in(sort, 0, 3)) {
            return -2;
        }
        if (!in(n, 0, 60)) {
            return -3;
        }
        rows[row] = new long[n];
        sorts[row] = sort;
        return 0;
    }

    private long cut(int row, long v) {
        int unused = 64 - (8 << sorts[row]);
        return v << unused >> unused;
    }

    long write(int row, int i, long v) {
        if (!in(row, 0, 3)) {
            return -2;
        }
        if (rows[row] == null) {
            return -6;
        }
        if (!in(i, 0, rows[row].length - 1)) {
            return -7;
        }
        rows[row][i] = cut(row, v);
        return rows[row][i];
    }

    int storm(int row, int weight) {
        if (!in(row, 0, 3)) {
            return -2;
        }
        if (!weighs(weight)) {
            return -3;
        }
        if (none()) {
            return -5;
        }
        if (rows[row] == null) {
            return -6;
        }
        for (int i = 0; i < rows[row].length; i++) {
            long v = rows[row][i];
            if (go(weight, v < 0 ? 0 : v > 99 ? 99 : (int) v, 0).end != 0) {
                return i;
            }
        }
        return -1;
    }

    int keep(int row, int weight) {
        if (!in(row, 0, 3)) {
            return -2;
        }
        if (!weighs(weight)) {
            return -3;
        }
        if (none()) {
            return -5;
        }
        if (rows[row] == null) {
            return -6;
        }
        if (rows[row].length < s.high.size()) {
            return -7;
        }
        Run r = go(weight, 0, 0);
        for (int p = 0; p < s.high.size(); p++) {
            rows[row][p] = r.firsts.containsKey(p) ? cut(row, r.firsts.get(p)[0]) : 0;
        }
        return s.high.size();
    }

    int image(int i) {
        if (!in(i, 0, 1)) {
            return -2;
        }
        images[i] = s.copy();
        return 0;
    }

    int restore(int i) {
        if (!in(i, 0, 1)) {
            return -2;
        }
        if (images[i] == null) {
            return -5;
        }
        s = images[i].copy();
        return 0;
    }

    int count(int what) {
        int[] all = {none() ? 0 : s.high.size(), blockCount(), s.chains.size(), s.dogs.size(), s.drag, s.push,
            s.rules.size(), s.log.size(), s.stairs.size(), s.tests.size(), s.parts.size(), tape.size(),
            s.groups.size(), s.stays.size(), s.entries.size(), s.operators.size()};
        return in(what, 0, 15) ? all[what] : -1;
    }
}
