/** Promises 48 to 54: ROWS, IMAGES and count. */
public final class RowsTest {
    private static final String DIP = "high 10 5 0 5 10;drag 0;push 100;block 2;";

    public static void main(String[] args) {
        store();
        write();
        storm();
        keep();
        image();
        restoreAll();
        restoreNoTrack();
        count();
        Check.end();
    }

    private static void store() {
        Check.promise("48 store");
        CoasterDay x = new CoasterDay();
        Check.due("ROW", x.store(4, 0, 61), -2);
        Check.due("ROW", x.store(-1, 0, 1), -2);
        Check.due("sort", x.store(0, 4, 61), -2);
        Check.due("sort", x.store(0, -1, 1), -2);
        Check.due("n", x.store(0, 0, -1), -3);
        Check.due("it is MISSING still", x.write(0, 0, 1), -6);
        Check.due("60 numbers", x.store(3, 3, 60), 0);
        Check.due("the last one", x.write(3, 59, 5), 5);
        Check.due("n, and the ROW stays", x.store(3, 0, 61), -3);
        Check.due("of 64 bits", x.write(3, 58, Long.MIN_VALUE), Long.MIN_VALUE);
        Check.due("no numbers", x.store(1, 0, 0), 0);
        Check.due("isn't MISSING", x.write(1, 0, 1), -7);
        Check.tell(x, 0, DIP);
        x.store(0, 2, 2);
        x.write(0, 1, 99);
        Check.due("99 as WIND", x.storm(0, 1), 1);
        x.store(0, 2, 2);
        Check.due("all 0 again", x.storm(0, 1), -1);
    }

    private static void write() {
        Check.promise("49 write");
        CoasterDay x = new CoasterDay();
        Check.due("ROW", x.write(4, 0, 1), -2);
        Check.due("ROW", x.write(-1, 0, 1), -2);
        Check.due("MISSING", x.write(0, -1, 1), -6);
        for (int sort = 0; sort <= 3; sort++) {
            x.store(sort, sort, 3);
        }
        Check.due("8 bits", x.write(0, 0, 127), 127);
        Check.due("8 bits", x.write(0, 0, 128), -128);
        Check.due("8 bits", x.write(0, 0, 256), 0);
        Check.due("16 bits", x.write(1, 0, 32768), -32768);
        Check.due("16 bits", x.write(1, 0, -32769), 32767);
        Check.due("32 bits", x.write(2, 0, 1L << 31), Integer.MIN_VALUE);
        Check.due("32 bits", x.write(2, 0, (5L << 32) + 7), 7);
        Check.due("64 bits", x.write(3, 2, Long.MAX_VALUE), Long.MAX_VALUE);
        Check.due("no such number", x.write(0, 3, 1), -7);
        Check.due("no such number", x.write(0, -1, 1), -7);
    }

    /** By 1 a RUN on DIP is OUT in WIND to 12, by 20 in all WINDS. */
    private static void storm() {
        Check.promise("50 storm");
        CoasterDay x = Check.on(DIP);
        Check.due("ROW", x.storm(4, 0), -2);
        Check.due("ROW", x.storm(-1, 1), -2);
        Check.due("WEIGHT", x.storm(0, 0), -3);
        Check.due("WEIGHT", x.storm(0, 21), -3);
        Check.due("MISSING", x.storm(0, 1), -6);
        x.store(0, 3, 4);
        Check.due("calm", x.storm(0, 1), -1);
        x.write(0, 3, 13);
        Check.due("the last one", x.storm(0, 1), 3);
        x.write(0, 1, Long.MAX_VALUE);
        Check.due("above 99 counts as 99", x.storm(0, 1), 1);
        Check.due("not by 20", x.storm(0, 20), -1);
        x.write(0, 1, Long.MIN_VALUE);
        x.write(0, 0, -1);
        x.write(0, 2, 12);
        Check.due("below 0 counts as 0", x.storm(0, 1), 3);
        x.write(0, 2, 1L << 40);
        Check.due("far above", x.storm(0, 1), 2);
        x.store(1, 0, 0);
        Check.due("no numbers", x.storm(1, 1), -1);
        CoasterDay y = Check.on("high 0 0;push 20;drag 0;");
        y.store(0, 0, 2);
        y.write(0, 0, 10);
        Check.due("without COLD", y.storm(0, 1), -1);
        y.write(0, 1, 11);
        Check.due("11", y.storm(0, 1), 1);
    }

    private static void keep() {
        Check.promise("51 keep");
        CoasterDay x = Check.on(DIP);
        Check.due("ROW", x.keep(4, 0), -2);
        Check.due("WEIGHT", x.keep(0, 0), -3);
        Check.due("MISSING", x.keep(0, 1), -6);
        x.store(0, 0, 4);
        x.write(0, 0, 13);
        Check.due("fewer than POINTS", x.keep(0, 1), -7);
        Check.due("nothing happened", x.storm(0, 1), 0);
        x.store(0, 2, 6);
        x.write(0, 5, 99);
        Check.due("how many", x.keep(0, 1), 5);
        Check.due("100 counts as 99", x.storm(0, 1), 0);
        x.store(1, 0, 6);
        x.write(1, 5, 99);
        x.keep(1, 1);
        x.write(1, 0, 0);
        x.write(1, 4, 0);
        Check.due("150, 200, 150 are below 0 in 8 bits; the 6th stays", x.storm(1, 1), 5);
        CoasterDay y = Check.on("high 0 0 99;push 13;drag 0;");
        y.store(0, 1, 3);
        y.write(0, 2, 99);
        Check.due("how many", y.keep(0, 1), 3);
        Check.tell(y, 0, "high 0 0;push 1;drag 0;");
        Check.due("13 at POINT 0", y.storm(0, 1), 0);
        y.write(0, 0, 0);
        Check.due("13 at POINT 1", y.storm(0, 1), 1);
        y.write(0, 1, 0);
        Check.due("0 at POINT 2, where it doesn't come", y.storm(0, 1), -1);
    }

    private static void image() {
        Check.promise("52 image");
        CoasterDay x = new CoasterDay();
        Check.due("image(2)", x.image(2), -2);
        Check.due("image(-1)", x.image(-1), -2);
        x.test(1, 1);
        Check.due("image(0)", x.image(0), 0);
        x.test(1, 1);
        Check.due("image(1)", x.image(1), 0);
        x.test(1, 1);
        x.restore(0);
        Check.due("the one", x.count(9), 1);
        x.restore(1);
        Check.due("the other", x.count(9), 2);
        x.image(0);
        x.restore(0);
        Check.due("in place of the one", x.count(9), 2);
    }

    private static CoasterDay filled() {
        CoasterDay x = Check.on("high 0 1 5;chain 0 to 1 speed 1;dog 0 to 1;block 1;push 9;drag 2;");
        Check.tell(x, 1, "leave 0 if not free 1;");
        x.log(0, 1, 1, 0);
        x.stair(2);
        x.test(1, 1);
        x.part(1, 5);
        x.group(1, 50);
        x.stay(0, 0, 0, 0);
        x.grow(3, 1, 0);
        x.operator(3, 0, 23);
        x.lift(0, 1, 5);
        return x;
    }

    private static void restoreAll() {
        Check.promise("53 restore");
        CoasterDay x = filled();
        Check.due("restore(2)", x.restore(2), -2);
        Check.due("restore(-1)", x.restore(-1), -2);
        Check.due("none was made", x.restore(0), -5);
        x.image(0);
        Check.due("nor that one", x.restore(1), -5);
        int[] before = new int[16];
        for (int what = 0; what < 16; what++) {
            before[what] = x.count(what);
        }
        int ticks = x.run(20, 0, 0, 1);
        int odds = x.odds(1, 20, 0, 99, 0);
        x.age(3);
        x.store(0, 0, 7);
        Check.tell(x, 0, DIP);
        Check.due("another TRACK", x.odds(1, 20, 0, 99, 0) == odds ? 1 : 0, 0);
        Check.feed(x, "some bytes");
        x.test(1, 1);
        x.operator(1, 1, 1);
        Check.due("restore", x.restore(0), 0);
        for (int what = 0; what < 16; what++) {
            Check.due("count(" + what + ")", x.count(what), what == 11 ? 20 : before[what]);
        }
        Check.due("the RUN", x.run(20, 0, 0, 1), ticks);
        Check.due("ODDS", x.odds(1, 20, 0, 99, 0), odds);
        Check.due("the height", x.point(2, 0), 5);
        Check.due("the RULE", x.leaves(3, 0), 1);
        Check.due("the STAIR", x.stair(2), -3);
        Check.due("the PART's HOURS", x.days(0, 1), 4);
        Check.due("the ENTRY's WEIGHT", x.grow(4, 1, 0), -3);
        Check.due("STRETCH", x.lift(0, 1, 1), 6);
        Check.due("the ROW is as it is now", x.write(0, 6, 1), 1);
        x.restore(0);
        Check.due("once more", x.lift(0, 1, 1), 6);
    }

    private static void restoreNoTrack() {
        Check.promise("53 restore what had no TRACK");
        CoasterDay x = new CoasterDay();
        x.image(1);
        Check.tell(x, 0, DIP);
        x.stay(0, 0, 0, 0);
        Check.due("restore", x.restore(1), 0);
        Check.due("no TRACK", x.run(1, 0, 0, 0), -5);
        for (int what = 0; what < 16; what++) {
            Check.due("count(" + what + ")", x.count(what), 0);
        }
    }

    private static void count() {
        Check.promise("54 count");
        CoasterDay x = filled();
        int[] due = {3, 2, 1, 1, 2, 9, 1, 1, 1, 1, 1, 0, 1, 1, 1, 1};
        for (int what = 0; what < 16; what++) {
            Check.due("count(" + what + ")", x.count(what), due[what]);
        }
        x.feed(0, 0, 0, 0, 0);
        Check.due("count(11)", x.count(11), 20);
        Check.due("count(16)", x.count(16), -1);
        Check.due("count(-1)", x.count(-1), -1);
        Check.due("drag untold", Check.on("high 1 2;").count(4), 10);
    }
}
