import java.util.Random;

/**
 * Runs of random calls, told both to the class and to the model, whose answers must be alike. Seeds are fixed, so
 * each run is the same each time. The first argument, if any, tells how many runs.
 */
public final class RandomRunsTest {
    /** An object is used for at most 512 calls: a text takes up to 24 of them, and 16 stand at the end. */
    private static final int CALLS = 470;
    private static int wrong = 0;
    private static long made = 0;

    private final Random random;
    private final CoasterDay x = new CoasterDay();
    private final Model m = new Model();
    private final StringBuilder told = new StringBuilder();
    private final int seed;
    private final int tells;
    private final int[] favoured = new int[8];
    private final int hiddenDrag;
    private final int hiddenWorn;
    private final int hiddenTenths;
    private int points = 0;
    private int blocks = 0;

    private RandomRunsTest(int seed) {
        this.seed = seed;
        this.random = new Random(seed);
        this.tells = new int[] {4, 1, 0}[random.nextInt(3)];
        for (int k = 0; k < favoured.length; k++) {
            favoured[k] = random.nextInt(56);
        }
        this.hiddenDrag = random.nextInt(chance(60) ? 8 : 51);
        this.hiddenWorn = random.nextInt(5) - 1;
        this.hiddenTenths = random.nextInt(21);
    }

    public static void main(String[] args) {
        int runs = args.length > 0 ? Integer.parseInt(args[0]) : 200;
        int from = args.length > 1 ? Integer.parseInt(args[1]) : 0;
        for (int seed = from; seed < from + runs && wrong < 5; seed++) {
            new RandomRunsTest(seed).go();
        }
        System.out.println(made + " calls, " + wrong + " wrong");
        if (wrong != 0) {
            System.exit(1);
        }
    }

    private void go() {
        int before = wrong;
        long begun = made;
        if (chance(90)) {
            tell(0, track());
        }
        while (made - begun < CALLS && wrong == before) {
            if (chance(tells)) {
                tell(0, chance(30) ? spoil(track()) : track());
            } else if (chance(4)) {
                tell(1, chance(30) ? spoil(controller()) : controller());
            } else {
                call(chance(50) ? favoured[random.nextInt(favoured.length)] : random.nextInt(56));
            }
        }
        for (int what = 0; what <= 15 && wrong == before; what++) {
            same("count(" + what + ")", x.count(what), m.count(what));
        }
    }

    private boolean chance(int percent) {
        return random.nextInt(100) < percent;
    }

    /** Mostly from low to high, at times one off, at times far off. */
    private int any(int low, int high) {
        if (chance(97) && high >= low) {
            return chance(12) ? low : chance(12) ? high : (int) (low + Math.floorMod(random.nextLong(), (long) high - low + 1));
        }
        int[] odd = {low - 1, high + 1, -1, -2, 64, 1000, Integer.MAX_VALUE, Integer.MIN_VALUE, random.nextInt()};
        return odd[random.nextInt(odd.length)];
    }

    private int ith(int most) {
        return chance(40) ? -1 : any(0, most);
    }

    private int weight() {
        return any(1, 20);
    }

    private int pointNow() {
        return any(0, Math.max(0, points - 1));
    }

    private int bits() {
        return any(0, (1 << Math.max(1, blocks)) - 1);
    }

    private void same(String call, long got, long want) {
        made++;
        if (got != want) {
            wrong++;
            System.out.println("seed " + seed + "\n" + told + call + " answered " + got + ", the model says " + want);
        }
    }

    private void tell(int what, String text) {
        if (chance(3)) {
            text = text + " ".repeat(random.nextInt(20));
        }
        for (int at = 0; at < text.length(); at += 20) {
            int[] v = new int[5];
            for (int i = 0; i < 20; i++) {
                v[i / 4] = v[i / 4] << 8 | (at + i < text.length() ? text.charAt(at + i) & 255 : ' ');
            }
            same("feed", x.feed(v[0], v[1], v[2], v[3], v[4]), m.feed(v[0], v[1], v[2], v[3], v[4]));
        }
        int n = chance(3) ? any(0, m.count(11)) : Math.min(text.length(), m.count(11));
        told.append("text ").append(what).append(' ').append(n).append(": ").append(text).append('\n');
        int w = chance(2) ? any(0, 1) : what;
        same("text", x.text(w, n), m.text(w, n));
        same("fault(0)", x.fault(0), m.fault(0));
        same("fault(1)", x.fault(1), m.fault(1));
        points = m.count(0);
        blocks = m.count(1);
        told.append("points ").append(points).append(" blocks ").append(blocks).append('\n');
    }

    private String gap() {
        return chance(80) ? " " : chance(50) ? "\n" : chance(50) ? "  " : " \n ";
    }

    private String shut() {
        return chance(70) ? ";" : chance(50) ? " ;" : ";" + gap();
    }

    private String track() {
        StringBuilder t = new StringBuilder();
        int n = chance(10) ? 40 + random.nextInt(19) : 2 + random.nextInt(16);
        int steep = chance(50) ? 12 : 99;
        int height = random.nextInt(80);
        int fall = new int[] {0, steep / 8, steep / 3}[random.nextInt(3)];
        StringBuilder later = new StringBuilder();
        t.append("high");
        for (int p = 0; p < n; p++) {
            height = Math.max(0, Math.min(99, height + random.nextInt(2 * steep + 1) - steep - (p == 0 ? 0 : fall)));
            t.append(gap()).append(height);
            if (p == n / 2 && chance(20)) {
                t.append(shut()).append("high");
            } else if (p == 1 && chance(10)) {
                t.append(shut()).append("dog 0 to 1").append(shut()).append("high");
                p++;
                t.append(' ').append(random.nextInt(100));
            }
        }
        t.append(shut());
        if (chance(60)) {
            t.append("drag").append(gap()).append(chance(40) ? random.nextInt(4) : random.nextInt(51)).append(shut());
        }
        if (chance(70)) {
            t.append("push").append(gap()).append(random.nextInt(chance(50) ? 1000 : 200)).append(shut());
        }
        for (int k = random.nextInt(3); k > 0; k--) {
            int from = random.nextInt(n - 1);
            int to = from + 1 + random.nextInt(Math.min(4, n - 1 - from));
            t.append("chain ").append(from).append(" to ").append(to).append(" speed").append(gap());
            t.append(chance(50) ? random.nextInt(10) : random.nextInt(1000)).append(shut());
        }
        for (int k = random.nextInt(3); k > 0; k--) {
            int from = random.nextInt(n - 1);
            int to = from + 1 + random.nextInt(Math.min(6, n - 1 - from));
            t.append("dog ").append(from).append(" to ").append(to).append(shut());
        }
        int at = 0;
        for (int k = random.nextInt(6); k > 0; k--) {
            at += 1 + random.nextInt(Math.max(1, n / 5));
            if (at < n) {
                later.append("block ").append(at).append(shut());
            }
        }
        return t.append(later).toString();
    }

    private String controller() {
        StringBuilder t = new StringBuilder();
        for (int k = random.nextInt(chance(10) ? 14 : 5); k > 0; k--) {
            t.append("leave ").append(random.nextInt(Math.max(1, blocks))).append(" if ");
            t.append(chance(15) ? deep() : fact(3)).append(shut());
        }
        return t.toString();
    }

    private String fact(int depth) {
        int sort = random.nextInt(7);
        if (depth == 0 || sort < 2) {
            return (sort == 0 ? "not free " : "free ") + random.nextInt(Math.max(1, blocks));
        }
        switch (sort) {
            case 2: return "not " + fact(depth - 1);
            case 3: return "(" + fact(depth - 1) + ")";
            case 4: return "not(" + fact(depth - 1) + " or " + fact(depth - 1) + ")";
            case 5: return fact(depth - 1) + gap() + "or " + fact(depth - 1);
            default: return fact(depth - 1) + " and" + gap() + fact(depth - 1);
        }
    }

    private String deep() {
        StringBuilder t = new StringBuilder();
        StringBuilder end = new StringBuilder();
        for (int k = 7 + random.nextInt(3); k > 0; k--) {
            if (chance(50)) {
                t.append("(");
                end.append(")");
            } else {
                t.append("not ");
            }
        }
        return t.append("free 0").append(end).toString();
    }

    /** A text with something wrong in it. */
    private String spoil(String text) {
        if (text.isEmpty()) {
            return ";";
        }
        String[] bits = {"high", ";", "(", ")", "1", "99", "100", "1000", "A", "\t", "block 1;", "drag 1;", "push 2;", "to",
            "chain 0 to 1 speed 5;", "dog 0 to 1;", "free 0", "not ", "leave 0 if free 0;", "é", "\u0000", "x", "51", " "};
        int at = random.nextInt(text.length());
        switch (random.nextInt(4)) {
            case 0: return text.substring(0, at);
            case 1: return text.substring(0, at) + text.substring(at + 1);
            case 2: return text.substring(0, at) + bits[random.nextInt(bits.length)] + text.substring(at + 1);
            default: return text.substring(0, at) + bits[random.nextInt(bits.length)] + text.substring(at);
        }
    }

    /** TICKS that tell of a drag, most often not too far off. */
    private int ticksNear(int drag, int weight, int off) {
        int far = Math.max(0, Math.min(off, 99));
        return chance(95) ? Math.max(1, m.ticksBy(drag, weight) + random.nextInt(2 * far + 1) - far) : any(1, 99999);
    }

    private void call(int which) {
        if (which < 14) {
            callTrack(which);
        } else if (which < 28) {
            callStairs(which);
        } else if (which < 46) {
            callMore(which);
        } else {
            callRows(which);
        }
    }

    private void callTrack(int which) {
        int a = weight();
        int b = pointNow();
        boolean most = chance(50);
        switch (which) {
            case 0: { int c = any(0, 99); int d = any(0, 99); int w = any(0, 5);
                same("run(" + a + "," + c + "," + d + "," + w, x.run(a, c, d, w), m.run(a, c, d, w)); break; }
            case 1: same("speed(" + a + "," + b, x.speed(a, b), m.speed(a, b)); break;
            case 2: { int w = any(0, 1); same("point(" + b + "," + w, x.point(b, w), m.point(b, w)); break; }
            case 3: { int w = any(0, 9); same("felt(" + a + "," + b + "," + w, x.felt(a, b, w), m.felt(a, b, w)); break; }
            case 4: { int w = any(0, 9); same("feels(" + a + "," + w + "," + most, x.feels(a, w, most), m.feels(a, w, most)); break; }
            case 5: { int to = any(a, 20); int c = any(0, 99); int d = any(c, 99); int w = any(0, 99);
                same("odds(" + a + "," + to + "," + c + "," + d + "," + w, x.odds(a, to, c, d, w), m.odds(a, to, c, d, w)); break; }
            case 6: callRow(); break;
            case 7: { int t = bits(); int k = any(0, Math.max(0, blocks - 1));
                same("leaves(" + t + "," + k, x.leaves(t, k), m.leaves(t, k)); break; }
            case 8: { int k = any(0, Math.max(0, blocks - 1)); same("time(" + a + "," + k, x.time(a, k), m.time(a, k)); break; }
            case 9: { int n = any(1, 10); int c = chance(60) ? any(1, 30) : any(1, 999); int w = any(-1, n - 1); int l = chance(60) ? any(0, 40) : any(0, 999);
                same("holds(" + a + "," + n + "," + c + "," + w + "," + l, x.holds(a, n, c, w, l), m.holds(a, n, c, w, l)); break; }
            case 10: { int n = any(1, 10); int l = chance(70) ? any(0, 40) : any(0, 999); int w = chance(80) ? any(0, 9) : any(0, 99);
                same("beat(" + a + "," + n + "," + l + "," + w, x.beat(a, n, l, w), m.beat(a, n, l, w)); break; }
            case 11: { int t = any(0, 3); int o = chance(80) ? any(0, 3) : any(0, 99); int k = ticksNear(t == hiddenWorn ? hiddenDrag + 10 : hiddenDrag, a, o);
                same("log(" + t + "," + a + "," + k + "," + o, x.log(t, a, k, o), m.log(t, a, k, o)); break; }
            case 12: { int i = ith(30); same("fits(" + i, x.fits(i), m.fits(i)); break; }
            default: same("worn", x.worn(), m.worn()); break;
        }
    }

    private void callRow() {
        int what = any(0, 1);
        int trains = bits();
        int lies = any(0, chance(30) ? 3 : 2);
        for (int i = -1; i < 6; i++) {
            same("row(" + what + "," + trains + "," + lies + "," + i, x.row(what, trains, lies, i), m.row(what, trains, lies, i));
        }
    }

    private void callStairs(int which) {
        int a = pointNow();
        switch (which) {
            case 14: same("stair(" + a, x.stair(a), m.stair(a)); break;
            case 15: { int w = any(0, 1); same("walk(" + a + "," + w, x.walk(a, w), m.walk(a, w)); break; }
            case 16: { int w = any(0, 1); same("worst(" + w, x.worst(w), m.worst(w)); break; }
            case 17: { int c = chance(50) ? 1 << random.nextInt(12) | 1 << random.nextInt(12) : any(0, 4095); int k = chance(70) ? any(1, 4) : any(1, 99);
                same("test(" + c + "," + k, x.test(c, k), m.test(c, k)); break; }
            case 18: case 19: { int c = any(0, 4095) & random.nextInt(); int w = any(0, 1);
                same("cover(" + c + "," + w, x.cover(c, w), m.cover(c, w)); break; }
            case 20: { int h = any(0, 9999); int k = any(1, 9999); same("part(" + h + "," + k, x.part(h, k), m.part(h, k)); break; }
            case 21: { int h = chance(80) ? any(1, 99) : any(1, 9999); same("age(" + h, x.age(h), m.age(h)); break; }
            case 22: case 23: { int p = any(0, Math.max(0, m.count(10) - 1)); int h = any(1, 24); same("days(" + p + "," + h, x.days(p, h), m.days(p, h)); break; }
            case 24: { int h = any(1, 24); same("first(" + h, x.first(h), m.first(h)); break; }
            case 25: { int w = weight(); same("restart(" + w + "," + a, x.restart(w, a), m.restart(w, a)); break; }
            case 26: { int i = ith(8); same("valley(" + i, x.valley(i), m.valley(i)); break; }
            default: { int k = any(1, 8); int h = any(50, 220); same("group(" + k + "," + h, x.group(k, h), m.group(k, h)); break; }
        }
    }

    private void callMore(int which) {
        int w = weight();
        int p = pointNow();
        boolean most = chance(50);
        switch (which) {
            case 28: case 29: { int k = chance(70) ? any(6, 16) : any(1, 40); int h = chance(80) ? any(50, 120) : any(50, 220); int i = ith(9);
                same("trains(" + k + "," + h + "," + i, x.trains(k, h, i), m.trains(k, h, i)); break; }
            case 30: { int n = any(1, 10); int b = any(1, 999); int f = any(0, 999); int e = any(1, 999); int r = any(0, 99);
                same("cross(" + w + "," + p + "," + n + "," + b + "," + f + "," + e + "," + r, x.cross(w, p, n, b, f, e, r), m.cross(w, p, n, b, f, e, r)); break; }
            case 31: { int n = any(1, 10); int f = chance(50) ? any(0, 40) : any(0, 999); int e = any(1, 999); int r = chance(50) ? any(0, 5) : any(0, 99);
                same("clear(" + w + "," + p + "," + n + "," + f + "," + e + "," + r, x.clear(w, p, n, f, e, r), m.clear(w, p, n, f, e, r)); break; }
            case 32: case 33: { int t = any(0, chance(50) ? 1 : 3); int b = any(0, Math.max(0, blocks - 1)); int h = any(0, 9999); int v = any(0, 99);
                same("stay(" + t + "," + b + "," + h + "," + v, x.stay(t, b, h, v), m.stay(t, b, h, v)); break; }
            case 34: { int k = any(0, Math.max(0, m.count(13) - 1)); same("led(" + k + "," + w, x.led(k, w), m.led(k, w)); break; }
            case 35: { int t = any(0, 3); same("leads(" + t + "," + w, x.leads(t, w), m.leads(t, w)); break; }
            case 36: same("quiet", x.quiet(), m.quiet()); break;
            case 37: { int g = m.s.entries.isEmpty() || chance(5) ? w : m.s.entries.get(0)[0]; int o = chance(60) ? any(0, 3) : any(0, 99); int k = ticksNear(hiddenDrag + hiddenTenths * m.count(14) / 10, g, o);
                same("grow(" + g + "," + k + "," + o, x.grow(g, k, o), m.grow(g, k, o)); break; }
            case 38: { int i = ith(30); same("growths(" + i, x.growths(i), m.growths(i)); break; }
            case 39: { int d = chance(60) ? any(0, 9) : any(0, 99); same("foretold(" + d + "," + most, x.foretold(d, most), m.foretold(d, most)); break; }
            case 40: { int k = any(0, 63) | random.nextInt(64); int f = any(0, 23); int t = any(f, 23); same("operator(" + k + "," + f + "," + t, x.operator(k, f, t), m.operator(k, f, t)); break; }
            case 41: { int h = any(0, 23); int k = any(0, 1); same("crew(" + h + "," + k, x.crew(h, k), m.crew(h, k)); break; }
            case 42: same("bare", x.bare(), m.bare()); break;
            case 43: { int c = any(0, Math.max(0, m.count(2) - 1)); int n = any(1, 999); same("lift(" + c + "," + w + "," + n, x.lift(c, w, n), m.lift(c, w, n)); break; }
            case 44: { int c = any(0, Math.max(0, m.count(2) - 1)); same("slips(" + c + "," + w, x.slips(c, w), m.slips(c, w)); break; }
            default: { int k = any(0, 5); same("stretched(" + w + "," + k, x.stretched(w, k), m.stretched(w, k)); break; }
        }
    }

    private void callRows(int which) {
        int r = any(0, 3);
        int w = weight();
        switch (which) {
            case 46: { int n = any(1, 10); int l = any(0, 60); int k = any(0, 9); int t = any(1, 40);
                same("riders(" + w + "," + n + "," + l + "," + k + "," + t, x.riders(w, n, l, k, t), m.riders(w, n, l, k, t)); break; }
            case 47: { int t = any(0, 3); int n = chance(50) ? points : any(0, 60); same("store(" + r + "," + t + "," + n, x.store(r, t, n), m.store(r, t, n)); break; }
            case 48: case 49: { int i = any(0, Math.max(1, points)); long v = chance(50) ? random.nextInt(120) - 10 : random.nextLong();
                same("write(" + r + "," + i + "," + v, x.write(r, i, v), m.write(r, i, v)); break; }
            case 50: case 51: same("storm(" + r + "," + w, x.storm(r, w), m.storm(r, w)); break;
            case 52: same("keep(" + r + "," + w, x.keep(r, w), m.keep(r, w)); break;
            case 53: { int i = any(0, 1); same("image(" + i, x.image(i), m.image(i)); break; }
            case 54: { int i = any(0, 1); same("restore(" + i, x.restore(i), m.restore(i)); points = m.count(0); blocks = m.count(1);
                told.append("restored: points ").append(points).append(" blocks ").append(blocks).append('\n'); break; }
            default: { int i = any(-1, 16); same("count(" + i, x.count(i), m.count(i)); break; }
        }
    }
}
