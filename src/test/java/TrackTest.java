/** Promises 5 to 10: RUNS, what is FELT, and ODDS. */
public final class TrackTest {
    private static final String DIP = "high 10 5 0 5 10;drag 0;push 100;block 2;";
    private static final String HILL = "high 0 10 0;chain 0 to 1 speed 3;";

    public static void main(String[] args) {
        runOut();
        runHeldAndStuck();
        runBackToTheChain();
        runRefused();
        speed();
        point();
        felt();
        feels();
        odds();
        Check.end();
    }

    private static void told(String name, CoasterDay x, int weight, int wind, int cold, int[] due) {
        for (int what = 0; what < due.length; what++) {
            Check.due(name + " what " + what, x.run(weight, wind, cold, what), due[what]);
        }
    }

    private static void runOut() {
        Check.promise("5 run, OUT");
        told("a dip", Check.on(DIP), 1, 0, 0, new int[] {0, 4, 4, 0, 100, 200});
        told("a chain, by 20: LOSS 5", Check.on(HILL), 20, 0, 0, new int[] {0, 7, 2, 0, 98, 98});
        told("a chain, by 1: LOSS 100", Check.on(HILL), 1, 0, 0, new int[] {0, 12, 2, 0, 3, 3});
        told("WIND twice, COLD once, cut: 100 and 6 and 5 by 20", Check.on(HILL), 20, 3, 5, new int[] {0, 7, 2, 0, 98, 98});
        told("the same and 9 more: LOSS 6", Check.on(HILL), 20, 3, 14, new int[] {0, 7, 2, 0, 97, 97});
        told("999 at most", Check.on("high 99 0 0;push 999;drag 0;"), 1, 0, 0, new int[] {0, 2, 2, 0, 999, 999});
        told("the greatest SPEED is push", Check.on("high 0 50;push 600;drag 0;"), 1, 0, 0, new int[] {0, 1, 1, 0, 100, 600});
        told("SPEED 0 goes on: 11 TICKS", Check.on("high 5 5;drag 0;"), 1, 0, 0, new int[] {0, 11, 1, 0, 0, 0});
        told("40 by 4 and 1", Check.on("high 5 5;drag 0;push 1;"), 1, 0, 0, new int[] {0, 9, 1, 0, 1, 1});
        told("40 by 4 and 37", Check.on("high 5 5;drag 0;push 37;"), 1, 0, 0, new int[] {0, 1, 1, 0, 37, 37});
        String two = "high 0 0 0 0;drag 0;chain 0 to 2 speed 6;chain 1 to 3 speed 36;";
        told("of two chains the first told", Check.on(two), 1, 0, 0, new int[] {0, 12, 3, 0, 36, 36});
    }

    private static void runHeldAndStuck() {
        Check.promise("5 run, HELD, STUCK");
        told("HELD by a dog", Check.on(HILL + "dog 0 to 1;"), 1, 2, 0, new int[] {2, 6, 1, 1, 3, 3});
        told("not by one that ends ahead", Check.on("high 0 0 10 0;chain 0 to 2 speed 3;dog 0 to 1;"), 1, 2, 0, new int[] {1, 12, 2, 2, 3, 3});
        told("not at a dog's first POINT", Check.on(HILL + "dog 1 to 2;"), 1, 2, 0, new int[] {1, 6, 1, 2, 3, 3});
        told("turns twice", Check.on(HILL), 1, 2, 0, new int[] {1, 6, 1, 2, 3, 3});
        told("turns at POINT 0", Check.on("high 0 1;drag 0;"), 1, 0, 0, new int[] {1, 0, 0, 2, 0, 0});
        String valley = "high 10 0 10 20;drag 0;push 50;";
        told("300 STEPS to and fro", Check.on(valley), 1, 0, 0, new int[] {1, 200, 0, 100, 50, 150});
        told("a valley with drag", Check.on("high 10 0 10 20;drag 1;push 5;"), 1, 0, 0, new int[] {1, 1, 1, 2, 95, 95});
    }

    private static void runBackToTheChain() {
        Check.promise("5 run, back to a chain");
        String back = "high 0 20 30 0;chain 0 to 1 speed 50;";
        told("it turns where the chain is", Check.on(back), 20, 0, 0, new int[] {1, 150, 0, 150, 245, 245});
        String dogged = "high 0 20 30 0;chain 0 to 1 speed 50;dog 0 to 1;";
        told("a dog comes first", Check.on(dogged), 20, 0, 0, new int[] {2, 1, 1, 1, 50, 50});
        String chained = "high 0 0 0 0 9;chain 1 to 3 speed 40;drag 0;";
        told("back from behind a chain to its last POINT", Check.on(chained), 1, 0, 0, new int[] {1, 161, 3, 149, 40, 40});
    }

    private static void runRefused() {
        Check.promise("5 run, refused");
        CoasterDay x = Check.on(DIP);
        Check.due("what", x.run(0, 0, 0, 6), -2);
        Check.due("what", x.run(1, 0, 0, -1), -2);
        Check.due("weight 0", x.run(0, 0, 0, 0), -3);
        Check.due("weight 21", x.run(21, 0, 0, 0), -3);
        Check.due("wind -1", x.run(1, -1, 0, 0), -3);
        Check.due("wind 100", x.run(1, 100, 0, 0), -3);
        Check.due("cold -1", x.run(1, 0, -1, 0), -3);
        Check.due("cold 100", x.run(1, 0, 100, 0), -3);
        Check.due("the bounds", x.run(20, 99, 99, 0), 0);
    }

    private static void speed() {
        Check.promise("6 speed");
        CoasterDay x = Check.on(DIP);
        int[] due = {100, 150, 200, 150, 100};
        for (int p = 0; p < due.length; p++) {
            Check.due("speed(1, " + p + ")", x.speed(1, p), due[p]);
        }
        CoasterDay y = Check.on("high 10 0 10 20;drag 0;push 50;");
        Check.due("as it first comes", y.speed(1, 0), 50);
        Check.due("as it first comes", y.speed(1, 1), 150);
        Check.due("it doesn't come there", y.speed(1, 3), -1);
        Check.due("no such POINT, ahead of the WEIGHT", x.speed(0, 5), -2);
        Check.due("no such POINT", x.speed(1, -1), -2);
        Check.due("WEIGHT", x.speed(0, 4), -3);
        Check.due("WEIGHT", x.speed(21, 4), -3);
    }

    private static void point() {
        Check.promise("7 point");
        CoasterDay x = Check.on("high 9 8 7 6 5;block 1;block 3;");
        int[] blocks = {0, 1, 1, 2, 2};
        for (int p = 0; p < blocks.length; p++) {
            Check.due("height of " + p, x.point(p, 0), 9 - p);
            Check.due("BLOCK of " + p, x.point(p, 1), blocks[p]);
        }
        Check.due("a block at the last POINT", Check.on("high 1 2;block 1;").point(1, 1), 1);
        Check.due("no block", Check.on("high 1 2;").point(1, 1), 0);
        Check.due("POINT", x.point(5, 0), -2);
        Check.due("POINT", x.point(-1, 1), -2);
        Check.due("what", x.point(0, 2), -2);
        Check.due("what", x.point(0, -1), -2);
    }

    private static void felt() {
        Check.promise("8 felt");
        CoasterDay x = Check.on(DIP);
        Check.due("in a valley", x.felt(1, 2, 0), 110);
        Check.due("a seat behind", x.felt(1, 2, 1), 85);
        Check.due("two seats behind", x.felt(1, 2, 2), 60);
        Check.due("that is no POINT", x.felt(1, 2, 3), -100000);
        Check.due("on a slope", x.felt(1, 1, 9), -100000);
        Check.due("below 0 is cut, too: 11 times -14 by 20", Check.on("high 0 7 0;push 81;drag 0;").felt(1, 1, 0), 3);
        CoasterDay y = Check.on("high 10 0 10 20;drag 0;push 50;");
        Check.due("it comes there", y.felt(1, 2, 0), 10);
        Check.due("it doesn't come there", y.felt(1, 2, 1), -100000);
        Check.due("the first POINT", x.felt(1, 0, 0), -2);
        Check.due("the last POINT", x.felt(0, 4, 0), -2);
        Check.due("no POINT", x.felt(1, 5, 0), -2);
        Check.due("seat", x.felt(0, 2, 10), -2);
        Check.due("seat", x.felt(1, 2, -1), -2);
        Check.due("WEIGHT", x.felt(0, 2, 0), -3);
        Check.due("of two POINTS none is between", Check.on("high 1 2;").felt(1, 1, 0), -2);
    }

    private static void feels() {
        Check.promise("9 feels");
        CoasterDay x = Check.on("high 10 5 0 5 0;drag 0;push 100;");
        Check.due("the greatest", x.feels(1, 0, true), 110);
        Check.due("the least: 150 times -10 by 20", x.feels(1, 0, false), -65);
        Check.due("seat 1, the greatest: 150 times 10 by 20", x.feels(1, 1, true), 85);
        Check.due("seat 1, the least: 200 times -10 by 20", x.feels(1, 1, false), -90);
        Check.due("seat 3: POINT 1 alone", x.feels(1, 3, true), 10);
        Check.due("seat 4: nothing", x.feels(1, 4, true), -100000);
        Check.due("two POINTS: nothing", Check.on("high 1 1;").feels(1, 0, false), -100000);
        Check.due("seat", x.feels(0, 10, true), -2);
        Check.due("seat", x.feels(1, -1, true), -2);
        Check.due("WEIGHT", x.feels(21, 0, true), -3);
    }

    private static void odds() {
        Check.promise("10 odds");
        CoasterDay x = Check.on("high 0 0;push 20;drag 0;");
        Check.due("WIND 0 to 10 is OUT by 1", x.odds(1, 1, 0, 10, 0), 0);
        Check.due("11 to 20 isn't", x.odds(1, 1, 0, 20, 0), 10);
        Check.due("by 2 (cut) it is to 20", x.odds(2, 2, 0, 99, 0), 79);
        Check.due("both", x.odds(1, 2, 0, 99, 0), 168);
        Check.due("the bounds", x.odds(1, 20, 99, 99, 0), 9);
        Check.due("COLD", x.odds(1, 1, 0, 0, 21), 1);
        Check.due("COLD", x.odds(1, 1, 0, 0, 20), 0);
        Check.due("all", x.odds(1, 20, 0, 99, 99), 895);
        Check.due("from above to", x.odds(2, 1, 0, 0, 0), -3);
        Check.due("calm above storm", x.odds(1, 1, 1, 0, 0), -3);
        Check.due("WEIGHTS", x.odds(0, 1, 0, 0, 0), -3);
        Check.due("WEIGHTS", x.odds(1, 21, 0, 0, 0), -3);
        Check.due("WINDS", x.odds(1, 1, -1, 0, 0), -3);
        Check.due("WINDS", x.odds(1, 1, 0, 100, 0), -3);
        Check.due("COLD", x.odds(1, 1, 0, 0, 100), -3);
        Check.due("COLD", x.odds(1, 1, 0, 0, -1), -3);
    }
}
