import java.util.ArrayList;
import java.util.Arrays;
import java.util.List;

/** What an object may hold as a call comes, from nothing to as much as can be; and all that its calls tell of it. */
enum Situation {
    /** A new object. */
    NEW,
    /** No TRACK, but some of all that goes without one. */
    TRACKLESS,
    /** A TRACK and nothing else. */
    PLAIN,
    /** A TRACK, and ROWS that have one number less than there are POINTS. */
    SHORT,
    /** Some of all, and room for more. */
    SOME,
    /** As many as can be of all. */
    FULL;

    static final String PLAIN_TRACK = "high 0 0 0;push 20;drag 0;block 1;";
    static final String SOME_TRACK =
        "high 9 4 0 4 8;push 99;drag 1;block 1;block 3;chain 0 to 1 speed 120;chain 1 to 2 speed 150;dog 0 to 1;";
    static final String FULL_TRACK = "high 9" + " 5".repeat(28) + " 0 5 4" + " 5".repeat(28) + ";push 600;drag 1;"
        + "block 10;block 20;block 30;block 40;block 59;chain 0 to 4 speed 900;chain 4 to 5 speed 850;dog 0 to 4;dog 1 to 5;";
    private static final String TAPE = "high 3 1 4 1 5;push 9;";
    private static final int CHAPTERS = 8;

    boolean hasTrack() {
        return this != NEW && this != TRACKLESS;
    }

    boolean hasRows() {
        return this == TRACKLESS || this == SHORT || this == SOME || this == FULL;
    }

    /** TESTS, PARTS, GROUPS, OPERATORS and IMAGES. */
    boolean hasLists() {
        return this == TRACKLESS || this == SOME || this == FULL;
    }

    CoasterDay make() {
        CoasterDay x = new CoasterDay();
        tell(x);
        return x;
    }

    Model makeModel() {
        Model m = new Model();
        tell(m);
        return m;
    }

    private static void feed(Object x, String text, int at) {
        int[] v = Check.twenty(text, at);
        Reflect.call(x, "feed", v[0], v[1], v[2], v[3], v[4]);
    }

    private static void text(Object x, int what, String text) {
        for (int at = 0; at < text.length(); at += 20) {
            feed(x, text, at);
        }
        Reflect.call(x, "text", what, text.length());
    }

    /** x is the class or its model. */
    private void tell(Object x) {
        switch (this) {
            case NEW:
                return;
            case TRACKLESS:
                lists(x, 2);
                break;
            case PLAIN:
                text(x, 0, PLAIN_TRACK);
                return;
            case SHORT:
                text(x, 0, PLAIN_TRACK);
                rows(x, 2);
                return;
            case SOME:
                text(x, 0, SOME_TRACK);
                text(x, 1, "leave 0 if free 1 or not free 0;leave 2 if not free 1;");
                ofTrack(x, 3, new int[] {1, 3});
                lists(x, 2);
                break;
            default:
                text(x, 0, FULL_TRACK);
                text(x, 1, "leave 0 if free 1;".repeat(6) + "leave 4 if not free 0;".repeat(6));
                ofTrack(x, 20, new int[] {59, 0, 7, 30, 31, 50});
                lists(x, 10);
                break;
        }
        rows(x, this == FULL ? 60 : 6);
        Reflect.call(x, "image", 0);
        Reflect.call(x, "age", 1);
        Reflect.call(x, "image", 1);
        Reflect.call(x, "age", 1);
        text(x, 0, " ");
        for (int k = 0; k < (this == FULL ? 20 : 2); k++) {
            feed(x, TAPE, 20 * k);
        }
    }

    /** LOG, STAIRS, STAYS, ENTRIES and STRETCH; of each at most so many, and as many as can be. */
    private static void ofTrack(Object x, int most, int[] stairs) {
        int ticks = (int) Reflect.call(x, "run", 7, 0, 0, 1);
        for (int k = 0; k < Math.min(most, 12); k++) {
            Reflect.call(x, "log", k % 4, 7, ticks, k % 4 == 3 ? 2 : 1);
        }
        for (int p : stairs) {
            Reflect.call(x, "stair", p);
        }
        for (int k = 0; k < most; k++) {
            Reflect.call(x, "stay", k * k % 4, k % 3, 600 - 7 * k * (k % 5), 9 * k % 100);
            Reflect.call(x, "grow", 7, ticks, 1 + k % 2);
        }
        Reflect.call(x, "lift", 0, 20, 999);
        Reflect.call(x, "lift", 1, 3, 700);
    }

    /** TESTS, PARTS, GROUPS and OPERATORS; of each at most so many, and as many as can be. */
    private static void lists(Object x, int most) {
        for (int k = 0; k < most; k++) {
            Reflect.call(x, "test", 5 << k, 1 + k * 7 % 5);
            Reflect.call(x, "group", 1 + k * 3 % 8, 100 + 10 * k);
            if (k < 8) {
                Reflect.call(x, "part", 10 * k, 100 + k);
                Reflect.call(x, "operator", k == 1 ? 63 : 1 << k % 6 | 5, k, 20 + k % 4);
            }
        }
    }

    private static void rows(Object x, int n) {
        for (int row = 0; row < 4; row++) {
            Reflect.call(x, "store", row, row, n);
            Reflect.call(x, "write", row, n - 1, 99);
            Reflect.call(x, "write", row, row % n, 98);
        }
    }

    /** That of two twins, of which one was told calls that are refused: what of the other one is told otherwise, as a text. */
    static String difference(CoasterDay x, CoasterDay other, int chapter) {
        long[] told = tellAll(x, chapter);
        long[] due = tellAll(other, chapter);
        int at = Arrays.mismatch(told, due);
        return at < 0 ? "" : "chapter " + chapter + ", answer " + at;
    }

    static int chapters() {
        return CHAPTERS;
    }

    /** What an object tells of itself; each chapter, which may change it, is for a fresh one. */
    private static long[] tellAll(CoasterDay x, int chapter) {
        List<Long> all = new ArrayList<>();
        if (chapter >= 4) {
            all.add((long) x.restore(chapter % 2));
        }
        switch (chapter) {
            case 0: case 4: case 5:
                ofTheTrack(x, all);
                break;
            case 1: case 6: case 7:
                ofTheLists(x, all);
                break;
            case 2:
                ofTheRows(x, all);
                break;
            default:
                ofTheTape(x, all);
                break;
        }
        return all.stream().mapToLong(v -> v).toArray();
    }

    private static void ofTheTrack(CoasterDay x, List<Long> all) {
        all.add((long) x.fault(0));
        all.add((long) x.fault(1));
        for (int what = 0; what <= 15; what++) {
            all.add((long) x.count(what));
        }
        int points = x.count(0);
        for (int p = 0; p < points; p++) {
            all.add((long) x.point(p, 0));
            all.add((long) x.point(p, 1));
        }
        for (int what = 0; what <= 5; what++) {
            all.add((long) x.run(20, 0, 0, what));
            all.add((long) x.stretched(20, what));
        }
        int blocks = x.count(1);
        for (int b = 0; b < blocks; b++) {
            all.add((long) x.leaves((1 << blocks) - 1, b));
            all.add((long) x.leaves(1 << b, b));
        }
        for (int chain = 0; chain < 2; chain++) {
            all.add((long) x.slips(chain, 1));
        }
        all.add((long) x.odds(1, 20, 0, 99, 0));
        all.add((long) x.row(0, 3, 1, -1));
        all.add((long) x.row(1, 3, 1, -1));
    }

    private static void ofTheLists(CoasterDay x, List<Long> all) {
        for (int i = -1; i < 4; i++) {
            all.add((long) x.fits(i));
            all.add((long) x.growths(i));
            all.add((long) x.trains(8, 50, i));
            all.add((long) x.trains(8, 110, i));
            all.add((long) x.trains(20, 100, i));
            all.add((long) x.leads(i, 1));
        }
        all.add((long) x.worn());
        all.add((long) x.quiet());
        all.add((long) x.bare());
        all.add((long) x.foretold(9, true));
        all.add((long) x.foretold(9, false));
        int points = x.count(0);
        for (int p = 0; p < points; p++) {
            all.add((long) x.walk(p, 1));
        }
        for (int k = 0; k < 12; k++) {
            all.add((long) x.cover(1 << k, 0));
            all.add((long) x.cover(7 << k & 4095, 1));
        }
        for (int k = 0; k < 8; k++) {
            all.add((long) x.days(k, 1));
        }
        for (int k = 0; k < 20; k++) {
            all.add((long) x.led(k, 1));
            all.add((long) x.led(k, 7));
        }
        for (int hour = 0; hour < 24; hour++) {
            all.add((long) x.crew(hour, 1));
        }
        if (x.count(2) > 0) {
            all.add((long) x.lift(0, 1, 1));
        }
    }

    private static void ofTheRows(CoasterDay x, List<Long> all) {
        x.text(0, 0);
        Check.tell(x, 0, PLAIN_TRACK);
        for (int row = 0; row < 4; row++) {
            long at = x.storm(row, 1);
            for (int k = 0; k < 4 && at >= 0; k++) {
                all.add(at);
                x.write(row, (int) at, 0);
                at = x.storm(row, 1);
            }
            all.add(at);
            for (int i : new int[] {0, 1, 2, 4, 5, 6, 59, 60}) {
                all.add(x.write(row, i, (1L << 40) + (1L << 31) + (1L << 15) + 128));
            }
        }
    }

    private static void ofTheTape(CoasterDay x, List<Long> all) {
        all.add((long) x.text(0, x.count(11)));
        all.add((long) x.fault(0));
        all.add((long) x.fault(1));
        all.add((long) x.count(5));
        int points = x.count(0);
        for (int p = 0; p < points; p++) {
            all.add((long) x.point(p, 0));
        }
    }
}
