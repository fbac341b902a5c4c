/** Promises 28 to 47: more of the day. */
public final class MoreTest {
    private static final String DIP = "high 10 5 0 5 10;drag 0;push 100;block 2;";
    /** SPEED 0 all along: 11 TICKS a STEP. */
    private static final String SLOW = "high 5 5 5 5 5 5 5;drag 0;block 1;block 4;";

    public static void main(String[] args) {
        restart();
        valley();
        group();
        trains();
        cross();
        clear();
        stay();
        led();
        leads();
        quiet();
        grow();
        growths();
        foretold();
        operator();
        crew();
        bare();
        lift();
        slips();
        stretched();
        riders();
        Check.end();
    }

    private static void restart() {
        Check.promise("28 restart");
        CoasterDay x = Check.on(DIP);
        Check.due("down and up again", x.restart(1, 0), 0);
        Check.due("from the bottom", x.restart(1, 2), 100);
        Check.due("half way up", x.restart(1, 3), 50);
        Check.due("at the last POINT", x.restart(1, 4), 0);
        Check.due("LOSS 100 by 1 a STEP", Check.on("high 5 5 5 5;").restart(1, 0), 300);
        Check.due("LOSS 5 by 20 a STEP", Check.on("high 5 5 5 5;").restart(20, 0), 15);
        Check.due("by none", Check.on("high 0 50 99 99 99;").restart(1, 0), -1);
        Check.due("999", Check.on("high 0 99;drag 9;").restart(10, 0), 999);
        Check.due("1000 would be needed", Check.on("high 0 99;drag 1;").restart(1, 0), -1);
        Check.due("a second chain", Check.on("high 5 0 99 0;drag 0;chain 0 to 1 speed 1;chain 1 to 2 speed 7;").restart(1, 1), 0);
        Check.due("a second chain that is too slow", Check.on("high 5 0 50 99;drag 0;chain 0 to 1 speed 999;chain 1 to 2 speed 7;").restart(1, 1), -1);
        Check.due("999 isn't enough", Check.on("high 0 99;drag 50;").restart(1, 0), -1);
        Check.due("a chain", Check.on("high 0 99 0;chain 0 to 1 speed 1;").restart(20, 0), 0);
        // From 1 with too little it rolls back to the chain, which lifts it over the top.
        Check.due("back to the chain", Check.on("high 0 10 20 0;drag 0;chain 0 to 1 speed 100;").restart(1, 1), 0);
        Check.due("POINT", x.restart(0, 5), -2);
        Check.due("POINT", x.restart(1, -1), -2);
        Check.due("WEIGHT", x.restart(0, 4), -3);
        Check.due("WEIGHT", x.restart(21, 4), -3);
    }

    private static void valley() {
        Check.promise("29 valley");
        CoasterDay x = Check.on("high 0 5 3 4 4 2 2 4 1 9 8;");
        Check.due("how many", x.valley(-1), 2);
        Check.due("the first", x.valley(0), 2);
        Check.due("the second", x.valley(1), 8);
        Check.due("not so many", x.valley(2), -1);
        Check.due("below", x.valley(-2), -1);
        Check.due("none", Check.on("high 0 1;").valley(-1), 0);
        Check.due("the only one between", Check.on("high 1 0 1;").valley(0), 1);
        Check.due("neither the first nor the last one", Check.on("high 0 1 0;").valley(-1), 0);
        Check.tell(x, 0, "high 5 9 7;");
        Check.due("what was behind the last POINT is gone", x.valley(-1), 0);
    }

    private static void group() {
        Check.promise("30 group");
        CoasterDay x = new CoasterDay();
        Check.due("size", x.group(0, 50), -3);
        Check.due("size", x.group(9, 50), -3);
        Check.due("HEIGHT", x.group(1, 49), -3);
        Check.due("HEIGHT", x.group(1, 221), -3);
        for (int k = 0; k < 10; k++) {
            Check.due("group " + k, x.group(k == 0 ? 8 : 1, k == 0 ? 220 : 50), k);
        }
        Check.due("an 11th", x.group(1, 50), -4);
        Check.due("a wrong 11th", x.group(0, 50), -3);
        Check.due("ten", x.count(12), 10);
    }

    private static void trains() {
        Check.promise("31 trains");
        CoasterDay x = new CoasterDay();
        Check.due("nobody", x.trains(1, 50, -1), 0);
        Check.due("nobody", x.trains(1, 50, 0), -1);
        int[][] groups = {{4, 100}, {3, 120}, {2, 90}, {5, 100}, {3, 100}};
        for (int[] g : groups) {
            x.group(g[0], g[1]);
        }
        Check.due("17 by 9", x.trains(9, 90, -1), 2);
        Check.due("0 with 3, of {0, 1, 2} and {0, 3} the least is 7", x.trains(9, 90, 0), 7);
        Check.due("the others", x.trains(9, 90, 1), 24);
        Check.due("no third one", x.trains(9, 90, 2), -1);
        Check.due("below", x.trains(9, 90, -2), -1);
        Check.due("those of 100 by 7", x.trains(7, 100, -1), 3);
        Check.due("0 alone", x.trains(7, 100, 0), 1);
        Check.due("1 with 4", x.trains(7, 100, 1), 18);
        Check.due("3 alone", x.trains(7, 100, 2), 8);
        Check.due("those of 120", x.trains(3, 120, 0), 2);
        Check.due("nobody of 121", x.trains(3, 121, -1), 0);
        Check.due("too large", x.trains(4, 100, -1), -1);
        Check.due("too large", x.trains(4, 100, 0), -1);
        Check.due("all in one", x.trains(17, 50, 0), 31);
        Check.due("seats", x.trains(0, 100, -1), -3);
        Check.due("seats", x.trains(41, 100, -1), -3);
        Check.due("HEIGHT", x.trains(1, 49, -1), -3);
        Check.due("HEIGHT", x.trains(1, 221, -1), -3);
        Check.due("the bounds", x.trains(40, 220, -1), 0);
    }

    private static void cross() {
        Check.promise("32 cross");
        CoasterDay x = Check.on(DIP);
        Check.due("2 and 12, others at 2, 14, ..", x.cross(1, 2, 2, 10, 2, 12, 0), 1);
        Check.due("within 2", x.cross(1, 2, 2, 10, 2, 12, 2), 2);
        Check.due("within 1", x.cross(1, 2, 2, 10, 2, 12, 1), 1);
        Check.due("ahead of the first one: 2 and 7", x.cross(1, 2, 1, 1, 7, 1, 4), 0);
        Check.due("ahead of the first one, within 5", x.cross(1, 2, 1, 1, 7, 1, 5), 1);
        Check.due("behind one: 4 and 3", x.cross(1, 4, 1, 1, 3, 999, 1), 1);
        Check.due("POINT 0 at once", x.cross(1, 0, 10, 5, 0, 10, 0), 5);
        Check.due("by every 1 all", x.cross(1, 0, 10, 999, 0, 1, 0), 10);
        Check.due("the bounds", x.cross(20, 0, 10, 999, 999, 999, 99), 9);
        CoasterDay y = Check.on("high 10 0 10 20;drag 0;push 50;");
        Check.due("it first comes there", y.cross(1, 1, 1, 1, 1, 999, 0), 1);
        Check.due("it doesn't come there", y.cross(1, 3, 1, 1, 0, 1, 0), -1);
        Check.due("POINT", x.cross(0, 5, 1, 1, 0, 1, 0), -2);
        Check.due("POINT", x.cross(1, -1, 1, 1, 0, 1, 0), -2);
        int[][] wrong = {{0, 1, 1, 0, 1, 0}, {21, 1, 1, 0, 1, 0}, {1, 0, 1, 0, 1, 0}, {1, 11, 1, 0, 1, 0}, {1, 1, 0, 0, 1, 0},
            {1, 1, 1000, 0, 1, 0}, {1, 1, 1, -1, 1, 0}, {1, 1, 1, 1000, 1, 0}, {1, 1, 1, 0, 0, 0}, {1, 1, 1, 0, 1000, 0},
            {1, 1, 1, 0, 1, -1}, {1, 1, 1, 0, 1, 100}};
        for (int[] w : wrong) {
            Check.due("wrong", x.cross(w[0], 0, w[1], w[2], w[3], w[4], w[5]), -3);
        }
    }

    private static void clear() {
        Check.promise("33 clear");
        CoasterDay x = Check.on(DIP);
        Check.due("2 and 3: not 3", x.clear(1, 2, 2, 3, 12, 0), 2);
        Check.due("the first one is NEAR at once", x.clear(1, 2, 2, 2, 12, 0), -1);
        Check.due("one TRAIN", x.clear(1, 2, 1, 3, 12, 0), 1);
        Check.due("others each 2 TICKS: even ones", x.clear(1, 0, 10, 1, 2, 0), 2);
        // 0 is 5 off; each further TRAIN must be more than 4 off from 5, 15, ..: that is by 10 alone.
        Check.due("in the middle between", x.clear(1, 0, 10, 5, 10, 4), 10);
        Check.due("too near", x.clear(1, 0, 10, 5, 10, 5), -1);
        Check.due("it doesn't come there", Check.on("high 10 0 10 20;drag 0;push 50;").clear(1, 3, 1, 0, 1, 0), -1);
        Check.due("POINT", x.clear(0, 5, 1, 0, 1, 0), -2);
        int[][] wrong = {{0, 1, 0, 1, 0}, {1, 0, 0, 1, 0}, {1, 11, 0, 1, 0}, {1, 1, -1, 1, 0}, {1, 1, 1000, 1, 0},
            {1, 1, 0, 0, 0}, {1, 1, 0, 1000, 0}, {1, 1, 0, 1, -1}, {1, 1, 0, 1, 100}};
        for (int[] w : wrong) {
            Check.due("wrong", x.clear(w[0], 0, w[1], w[2], w[3], w[4]), -3);
        }
    }

    private static void stay() {
        Check.promise("34 stay");
        CoasterDay x = Check.on(DIP);
        Check.due("TRAIN", x.stay(4, 0, -1, 0), -2);
        Check.due("TRAIN", x.stay(-1, 0, 0, 0), -2);
        Check.due("BLOCK", x.stay(0, 2, -1, 0), -2);
        Check.due("BLOCK", x.stay(0, -1, 0, 0), -2);
        Check.due("HOUR", x.stay(0, 0, -1, 0), -3);
        Check.due("HOUR", x.stay(0, 0, 10000, 0), -3);
        Check.due("WIND", x.stay(0, 0, 0, -1), -3);
        Check.due("WIND", x.stay(0, 0, 0, 100), -3);
        for (int k = 0; k < 20; k++) {
            Check.due("stay " + k, x.stay(3, 1, 9999, 99), k);
        }
        Check.due("a 21st", x.stay(0, 0, 0, 0), -4);
        Check.due("a wrong 21st", x.stay(0, 0, 0, 100), -3);
        Check.due("twenty", x.count(13), 20);
    }

    /** By 1 a RUN on DIP is OUT in WIND to 12. */
    private static void led() {
        Check.promise("35 led");
        CoasterDay x = Check.on(DIP);
        x.stay(0, 0, 1, 12);
        x.stay(0, 1, 2, 13);
        x.stay(0, 0, 3, 0);
        x.stay(1, 0, 4, 0);
        Check.due("three of four are its TRAIN's", x.led(0, 1), 2);
        Check.due("WIND", x.led(1, 1), 1);
        Check.due("not by 20", x.led(1, 20), 2);
        Check.due("three of four are in its BLOCK", x.led(3, 1), 3);
        x.stay(1, 1, 5, 0);
        x.stay(1, 1, 6, 0);
        Check.due("half of them isn't more than half", x.led(0, 1), 0);
        Check.due("half of them isn't more than half", x.led(5, 1), 0);
        CoasterDay y = Check.on("high 0 0 0;push 20;drag 0;block 1;block 2;");
        y.stay(2, 1, 0, 5);
        y.stay(2, 1, 0, 6);
        y.stay(3, 1, 0, 5);
        y.stay(0, 2, 0, 5);
        y.stay(3, 0, 0, 5);
        Check.due("no COLD: LOSS 10 twice", y.led(2, 1), 3);
        Check.due("LOSS 12 twice", y.led(1, 1), 1);
        Check.due("two of five are its TRAIN's", y.led(0, 1), 3);
        Check.due("one of five is in its BLOCK", y.led(3, 1), 0);
        y.stay(2, 0, 0, 0);
        y.stay(2, 0, 0, 0);
        Check.due("four of seven are its TRAIN's", y.led(0, 1), 2);
        Check.due("three of seven are in its BLOCK", y.led(2, 1), 0);
        Check.due("STAY", x.led(6, 0), -2);
        Check.due("STAY", x.led(-1, 1), -2);
        Check.due("WEIGHT", x.led(0, 0), -3);
        Check.due("WEIGHT", x.led(0, 21), -3);
    }

    private static void leads() {
        Check.promise("36 leads");
        CoasterDay x = Check.on(DIP);
        Check.due("no STAYS", x.leads(0, 1), 0);
        x.stay(0, 0, 1, 12);
        x.stay(0, 1, 2, 13);
        x.stay(0, 0, 3, 0);
        x.stay(1, 0, 4, 0);
        int[] due = {0, 1, 2, 1};
        for (int to = 0; to < due.length; to++) {
            Check.due("leads(" + to + ", 1)", x.leads(to, 1), due[to]);
        }
        Check.due("by 20", x.leads(2, 20), 3);
        Check.due("to", x.leads(4, 0), -2);
        Check.due("to", x.leads(-1, 1), -2);
        Check.due("WEIGHT", x.leads(0, 0), -3);
    }

    private static void quiet() {
        Check.promise("37 quiet");
        CoasterDay x = Check.on(DIP);
        x.stay(0, 0, 100, 0);
        x.stay(1, 0, 5000, 0);
        Check.due("no TRAIN has two", x.quiet(), -1);
        x.stay(0, 1, 100, 0);
        Check.due("of like HOURS 0", x.quiet(), 0);
        x.stay(0, 1, 70, 0);
        Check.due("by HOURS, not as they came", x.quiet(), 30);
        x.stay(0, 1, 90, 0);
        Check.due("less by one between", x.quiet(), 20);
        x.stay(1, 1, 5021, 0);
        Check.due("of another TRAIN", x.quiet(), 21);
        CoasterDay y = Check.on(DIP);
        y.stay(3, 0, 0, 0);
        y.stay(3, 0, 9999, 0);
        Check.due("from the first to the last HOUR", y.quiet(), 9999);
        y.stay(3, 0, 1, 0);
        Check.due("less 1", y.quiet(), 9998);
        CoasterDay z = Check.on(DIP);
        z.stay(3, 0, 8, 0);
        z.stay(3, 0, 7, 0);
        Check.due("1", z.quiet(), 1);
    }

    private static void grow() {
        Check.promise("38 grow");
        CoasterDay x = Check.on(DIP);
        Check.due("WEIGHT", x.grow(0, 1, 0), -3);
        Check.due("WEIGHT", x.grow(21, 1, 0), -3);
        Check.due("TICKS", x.grow(1, 0, 0), -3);
        Check.due("TICKS", x.grow(1, 100000, 0), -3);
        Check.due("off", x.grow(1, 1, -1), -3);
        Check.due("off", x.grow(1, 1, 100), -3);
        for (int k = 1; k <= 20; k++) {
            Check.due("grow " + k, x.grow(7, 99999, 99), k);
            Check.due("another WEIGHT", x.grow(8, 1, 0), -3);
        }
        Check.due("a 21st", x.grow(7, 1, 0), -4);
        Check.due("twenty", x.count(14), 20);
    }

    /** By 1 a RUN on DIP has 4 TICKS with drag 0 and 1, 5 with 2; it isn't OUT with 3. */
    private static void growths() {
        Check.promise("39 growths");
        CoasterDay x = Check.on(DIP);
        Check.due("no ENTRIES", x.growths(-1), -5);
        x.grow(1, 4, 0);
        Check.due("drag 0 and 1, all tenths", x.growths(-1), 42);
        Check.due("the 21st", x.growths(20), 20);
        Check.due("the 22nd", x.growths(21), 100);
        Check.due("the last one", x.growths(41), 120);
        Check.due("behind", x.growths(42), -1);
        Check.due("below", x.growths(-2), -1);
        x.grow(1, 5, 0);
        Check.due("0 by 20 tenths; 1 by 10 to 19", x.growths(-1), 11);
        Check.due("0", x.growths(0), 20);
        Check.due("10", x.growths(10), 119);
        x.grow(1, 7, 2);
        Check.due("by all of them drag is 3 and more on DAY 2: not OUT", x.growths(-1), 0);
        CoasterDay y = Check.on(DIP);
        y.grow(1, 4, 0);
        y.grow(1, 4, 1);
        y.grow(1, 5, 0);
        Check.due("1 by 5 to 9 tenths, 0 by 10 to 14", y.growths(-1), 10);
        Check.due("the first", y.growths(0), 10);
        Check.due("the sixth", y.growths(5), 105);
        CoasterDay z = Check.on("high 5 5;push 25;");
        z.grow(20, 11, 0);
        Check.due("drag 50 alone", z.growths(-1), 21);
        Check.due("the last of all", z.growths(20), 5020);
        CoasterDay w = Check.on("high 5 5;push 25;");
        w.grow(20, 13, 1);
        Check.due("none of 12 to 14", w.growths(-1), 0);
        Check.tell(w, 0, "high 5 5;push 25;");
        w.grow(20, 12, 3);
        Check.due("of 9 to 15 those of LOSS 24 and 25: drag 48 to 50", w.growths(-1), 63);
    }

    private static void foretold() {
        Check.promise("40 foretold");
        CoasterDay x = Check.on(DIP);
        Check.due("no ENTRIES", x.foretold(0, true), -5);
        x.grow(1, 4, 0);
        Check.due("DAY 0, the least", x.foretold(0, false), 4);
        Check.due("DAY 0, the greatest", x.foretold(0, true), 4);
        Check.due("DAY 1, the least", x.foretold(1, false), 4);
        Check.due("DAY 1, the greatest: 2 and 9 tenths", x.foretold(1, true), 5);
        Check.due("DAY 99: without growth", x.foretold(99, true), 4);
        x.grow(1, 5, 0);
        Check.due("DAY 1", x.foretold(1, false), 5);
        Check.due("DAY 2: none is OUT", x.foretold(2, true), -1);
        x.grow(1, 4, 0);
        Check.due("none FITS", x.foretold(0, true), -1);
        CoasterDay y = Check.on("high 5 5;push 25;");
        y.grow(20, 1, 99);
        Check.due("the greatest on DAY 0: drag 50", y.foretold(0, true), 11);
        Check.due("the least on DAY 0: drag 0", y.foretold(0, false), 1 + 40 / 29);
        CoasterDay z = Check.on("high 5 5;push 99;");
        z.grow(20, 1 + 40 / 103, 0);
        Check.due("DAY 99 by 20 tenths: 50 and 198, LOSS 124; one less is OUT", z.foretold(99, true), 11);
        Check.due("DAY", x.foretold(100, true), -3);
        Check.due("DAY", x.foretold(-1, false), -3);
    }

    private static void operator() {
        Check.promise("41 operator");
        CoasterDay x = new CoasterDay();
        Check.due("KEYS", x.operator(64, 0, 0), -3);
        Check.due("KEYS", x.operator(-1, 0, 0), -3);
        Check.due("HOURS", x.operator(1, -1, 0), -3);
        Check.due("HOURS", x.operator(1, 0, 24), -3);
        Check.due("HOURS", x.operator(1, 5, 4), -3);
        for (int k = 0; k < 8; k++) {
            Check.due("operator " + k, x.operator(k == 0 ? 0 : 63, k == 1 ? 23 : 0, 23), k);
        }
        Check.due("a 9th", x.operator(1, 0, 0), -4);
        Check.due("a wrong 9th", x.operator(64, 0, 0), -3);
        Check.due("eight", x.count(15), 8);
    }

    private static void crew() {
        Check.promise("42 crew");
        CoasterDay x = Check.on(SLOW);
        Check.due("there is none", x.crew(0, 0), -1);
        Check.due("there is none", x.crew(0, 1), -1);
        int[][] operators = {{1, 0, 11}, {6, 6, 11}, {3, 6, 8}, {4, 8, 8}, {7, 8, 10}, {63, 10, 10}, {56, 0, 23}};
        for (int[] o : operators) {
            x.operator(o[0], o[1], o[2]);
        }
        Check.due("at 5", x.crew(5, 0), -1);
        Check.due("at 6 how many", x.crew(6, 0), 2);
        Check.due("at 6: 0 and 1, not 1 and 2", x.crew(6, 1), 3);
        Check.due("at 8 how many", x.crew(8, 0), 1);
        Check.due("at 8: 4 alone", x.crew(8, 1), 16);
        Check.due("at 10: 4 or 5", x.crew(10, 1), 16);
        Check.due("at 11: 0 and 1", x.crew(11, 1), 3);
        Check.due("at 12", x.crew(12, 1), -1);
        CoasterDay y = Check.on(DIP);
        y.operator(1, 4, 4);
        y.operator(2, 4, 4);
        Check.due("all that are there", y.crew(4, 1), 3);
        Check.due("an hour ahead", y.crew(3, 1), -1);
        Check.due("an hour behind", y.crew(5, 1), -1);
        Check.due("what", x.crew(24, 2), -2);
        Check.due("what", x.crew(0, -1), -2);
        Check.due("HOUR", x.crew(24, 0), -3);
        Check.due("HOUR", x.crew(-1, 0), -3);
        Check.tell(x, 0, "high 1 2;");
        Check.due("OPERATORS stay; one BLOCK", x.crew(0, 1), 1);
    }

    private static void bare() {
        Check.promise("43 bare");
        CoasterDay x = Check.on(DIP);
        Check.due("all HOURS", x.bare(), 0xFFFFFF);
        x.operator(1, 0, 11);
        x.operator(2, 6, 23);
        x.operator(3, 12, 14);
        Check.due("0 to 5, 15 to 23", x.bare(), 0xFF803F);
        x.operator(63, 0, 23);
        Check.due("none", x.bare(), 0);
    }

    private static void lift() {
        Check.promise("44 lift");
        CoasterDay x = Check.on("high 0 1 2;chain 0 to 1 speed 5;chain 1 to 2 speed 0;");
        Check.due("chain 0", x.lift(0, 20, 999), 19980);
        Check.due("chain 0", x.lift(0, 1, 1), 19981);
        Check.due("chain 1", x.lift(1, 2, 3), 6);
        Check.due("chain", x.lift(2, 0, 0), -2);
        Check.due("chain", x.lift(-1, 1, 1), -2);
        Check.due("WEIGHT", x.lift(0, 0, 1), -3);
        Check.due("WEIGHT", x.lift(0, 21, 1), -3);
        Check.due("many", x.lift(0, 1, 0), -3);
        Check.due("many", x.lift(0, 1, 1000), -3);
        Check.due("nothing came of these", x.lift(0, 1, 1), 19982);
        Check.due("a TRACK with one chain", Check.on("high 0 1;chain 0 to 1 speed 5;").lift(1, 1, 1), -2);
    }

    private static void slips() {
        Check.promise("45 slips");
        CoasterDay x = Check.on("high 0 1 2;chain 0 to 1 speed 3;chain 1 to 2 speed 0;");
        Check.due("3000 by 20", x.slips(0, 20), 150);
        Check.due("3000 by 7", x.slips(0, 7), 429);
        Check.due("speed 0", x.slips(1, 1), 0);
        x.lift(0, 1, 999);
        Check.due("2001 by 1", x.slips(0, 1), 2001);
        Check.due("2001 by 20", x.slips(0, 20), 101);
        x.lift(0, 20, 100);
        Check.due("1 by 20", x.slips(0, 20), 1);
        x.lift(0, 1, 1);
        Check.due("it is", x.slips(0, 1), 0);
        x.lift(0, 1, 999);
        Check.due("it is more", x.slips(0, 1), 0);
        Check.due("chain", x.slips(2, 0), -2);
        Check.due("chain", x.slips(-1, 1), -2);
        Check.due("WEIGHT", x.slips(0, 0), -3);
        Check.due("WEIGHT", x.slips(0, 21), -3);
    }

    private static void stretched() {
        Check.promise("46 stretched");
        CoasterDay x = Check.on("high 0 10 0;chain 0 to 1 speed 3;");
        Check.due("no STRETCH", x.stretched(20, 1), 7);
        Check.due("no WIND, no COLD: LOSS 100", x.stretched(1, 0), 0);
        x.lift(0, 1, 999);
        Check.due("STRETCH 999 is no SLIP", x.stretched(20, 1), 7);
        x.lift(0, 1, 1);
        int[] due = {0, 8, 2, 0, 97, 97};
        for (int what = 0; what < due.length; what++) {
            Check.due("SLIP 1: what " + what, x.stretched(20, what), due[what]);
        }
        Check.due("a RUN isn't", x.run(20, 0, 0, 1), 7);
        Check.due("nor what a speed() tells", x.speed(20, 1), 3);
        x.lift(0, 20, 200);
        Check.due("0 at least", x.stretched(20, 1), 12);
        Check.due("0 at least", x.stretched(20, 5), 95);
        CoasterDay y = Check.on("high 0 0 0;drag 0;chain 0 to 1 speed 36;chain 1 to 2 speed 36;");
        y.lift(1, 20, 999);
        y.lift(1, 20, 801);
        Check.due("chain 1 alone is at 0", y.stretched(1, 1), 2 + 11);
        Check.due("what", x.stretched(0, 6), -2);
        Check.due("what", x.stretched(1, -1), -2);
        Check.due("WEIGHT", x.stretched(0, 0), -3);
        Check.due("WEIGHT", x.stretched(21, 0), -3);
    }

    private static void riders() {
        Check.promise("47 riders");
        CoasterDay x = Check.on(SLOW);
        Check.due("20000 by 33", x.riders(1, 10, 0, 0, 20), 606);
        Check.due("40000 by 1", x.riders(1, 1, 0, 0, 40), 40000);
        Check.due("1000 by 40", x.riders(1, 10, 7, 0, 1), 25);
        Check.due("no LEAST BEAT", x.riders(1, 2, 999, 0, 1), -1);
        Check.due("no TIMES", Check.on("high 0 1;drag 0;").riders(1, 1, 0, 0, 1), -1);
        Check.due("seats", x.riders(1, 1, 0, 0, 0), -3);
        Check.due("seats", x.riders(1, 1, 0, 0, 41), -3);
        Check.due("WEIGHT", x.riders(0, 1, 0, 0, 1), -3);
        Check.due("n", x.riders(1, 11, 0, 0, 1), -3);
        Check.due("late", x.riders(1, 1, 1000, 0, 1), -3);
        Check.due("most", x.riders(1, 1, 0, 100, 1), -3);
    }
}
