/** The boundaries of a RUN and of what is asked of it (promises 5 to 10, 28, 29, 44 to 46), a sentence of the document each. */
public final class EdgesRunTest {
    public static void main(String[] args) {
        lossIsCut();
        belowNought();
        most999();
        chainBounds();
        twoChains();
        dogBounds();
        backAtAChain();
        turnsTwice();
        steps300();
        ticks();
        greatestSpeed();
        firstAndLastPoint();
        feltBehindTheLast();
        feltCut();
        feelsNothing();
        odds();
        restart();
        valleys();
        stretch();
        slips();
        anotherTrack();
        Check.end();
    }

    private static void told(String name, CoasterDay x, int weight, int... due) {
        for (int what = 0; what < due.length; what++) {
            Check.due(name + ", what " + what, x.run(weight, 0, 0, what), due[what]);
        }
    }

    private static void speeds(String name, CoasterDay x, int weight, int... due) {
        for (int p = 0; p < due.length; p++) {
            Check.due(name + ", POINT " + p, x.speed(weight, p), due[p]);
        }
        Check.due(name + ", no further POINT", x.speed(weight, due.length), -2);
    }

    private static void lossIsCut() {
        Check.promise("5 LOSS: 10 times drag, 2 times WIND, COLD (once) together, by WEIGHT, cut");
        CoasterDay x = Check.on("high 0 0;drag 0;");
        Check.due("19 by 20 is 0: OUT", x.run(20, 0, 19, 0), 0);
        Check.due("20 by 20 is 1: SPEED would be below 0", x.run(20, 0, 20, 0), 1);
        Check.due("2 times 9 by 20", x.run(20, 9, 0, 0), 0);
        Check.due("2 times 10 by 20", x.run(20, 10, 0, 0), 1);
        Check.due("18 and 1 together", x.run(20, 9, 1, 0), 0);
        Check.due("18 and 2 together", x.run(20, 9, 2, 0), 1);
        Check.due("0 by 1", x.run(1, 0, 0, 0), 0);
        Check.due("1 by 1", x.run(1, 0, 1, 0), 1);
        CoasterDay y = Check.on("high 0 0;drag 1;");
        Check.due("10 by 11", y.run(11, 0, 0, 0), 0);
        Check.due("10 by 10", y.run(10, 0, 0, 0), 1);
        Check.due("10 and 8 and 1 by 20", y.run(20, 4, 1, 0), 0);
        Check.due("10 and 8 and 2 by 20", y.run(20, 4, 2, 0), 1);
        Check.due("500, 198 and 99 by 1", Check.on("high 0 0;drag 50;push 797;").run(1, 99, 99, 4), 0);
        Check.due("one less of push", Check.on("high 0 0;drag 50;push 796;").run(1, 99, 99, 0), 1);
    }

    private static void belowNought() {
        Check.promise("5 if that would be below 0, it turns");
        told("up to 0", Check.on("high 0 1;drag 0;push 10;"), 1, 0, 11, 1, 0, 0, 10);
        told("up to -1", Check.on("high 0 1;drag 0;push 9;"), 1, 1, 0, 0, 2, 9, 9);
        told("down, LOSS 10: to 0", Check.on("high 1 0;drag 1;"), 1, 0, 11, 1, 0, 0, 0);
        told("down, LOSS 20: to -10", Check.on("high 1 0;drag 2;"), 1, 1, 0, 0, 2, 0, 0);
        told("back up to 0: 75 times to and fro", Check.on("high 10 0 99;drag 0;"), 1, 1, 900, 0, 150, 0, 100);
        told("back up to below 0", Check.on("high 10 0 99;drag 1;"), 10, 1, 1, 1, 2, 99, 99);
    }

    private static void most999() {
        Check.promise("5 999 at most");
        CoasterDay x = Check.on("high 1 0 1;drag 0;push 989;");
        speeds("989 and 10", x, 1, 989, 999, 989);
        speeds("990 and 10", Check.on("high 1 0 1;drag 0;push 990;"), 1, 990, 999, 989);
        speeds("999 and 10", Check.on("high 1 0 1;drag 0;push 999;"), 1, 999, 999, 989);
        speeds("8 and 990", Check.on("high 99 0;drag 0;push 8;"), 1, 8, 998);
        speeds("9 and 990", Check.on("high 99 0;drag 0;push 9;"), 1, 9, 999);
        speeds("10 and 990", Check.on("high 99 0;drag 0;push 10;"), 1, 10, 999);
        speeds("999 and 990 less 500", Check.on("high 99 0;drag 50;push 999;"), 1, 999, 999);
        Check.due("the greatest", Check.on("high 99 0 99;drag 0;push 999;").run(1, 0, 0, 5), 999);
        speeds("a chain of 999", Check.on("high 0 0;chain 0 to 1 speed 999;"), 1, 0, 999);
    }

    private static void chainBounds() {
        Check.promise("5 p is from a chain's first POINT on, and ahead of its second one");
        String flat = "high 0 0 0 0 0;drag 1;push 50;";
        speeds("1 to 3", Check.on(flat + "chain 1 to 3 speed 20;"), 10, 50, 49, 20, 20, 19);
        speeds("1 to 2", Check.on(flat + "chain 1 to 2 speed 20;"), 10, 50, 49, 20, 19, 18);
        speeds("0 to 1", Check.on(flat + "chain 0 to 1 speed 20;"), 10, 50, 20, 19, 18, 17);
        speeds("3 to 4", Check.on(flat + "chain 3 to 4 speed 0;"), 10, 50, 49, 48, 47, 0);
        speeds("0 to 4", Check.on(flat + "chain 0 to 4 speed 9;"), 10, 50, 9, 9, 9, 9);
        told("from 0 to 99 by speed 0", Check.on("high 0 99;chain 0 to 1 speed 0;"), 1, 0, 11, 1, 0, 0, 0);
    }

    private static void twoChains() {
        Check.promise("5 of two chains the first told");
        String flat = "high 0 0 0 0 0;drag 0;";
        speeds("the lower one first", Check.on(flat + "chain 0 to 3 speed 30;chain 1 to 4 speed 40;"), 1, 0, 30, 30, 30, 40);
        speeds("the upper one first", Check.on(flat + "chain 1 to 4 speed 40;chain 0 to 3 speed 30;"), 1, 0, 30, 40, 40, 40);
        speeds("one behind the other", Check.on(flat + "chain 2 to 4 speed 40;chain 0 to 2 speed 30;"), 1, 0, 30, 30, 40, 40);
        speeds("both alike", Check.on(flat + "chain 1 to 2 speed 5;chain 1 to 2 speed 6;"), 1, 0, 0, 5, 5, 5);
    }

    private static void dogBounds() {
        Check.promise("5 back from p above a dog's first POINT, and not above its second one");
        String bowl = "high 20 0 0 0 99;drag 0;";
        told("1 to 2: at 2", Check.on(bowl + "dog 1 to 2;"), 1, 2, 4, 2, 1, 200, 200);
        told("2 to 3: at 3, where it turned", Check.on(bowl + "dog 2 to 3;"), 1, 2, 3, 3, 1, 200, 200);
        told("0 to 1: at 1", Check.on(bowl + "dog 0 to 1;"), 1, 2, 5, 1, 1, 200, 200);
        told("0 to 4: at once", Check.on(bowl + "dog 0 to 4;"), 1, 2, 3, 3, 1, 200, 200);
        // 37 times to and fro, 8 STEPS and 16 TICKS each, then 4 STEPS more.
        told("3 to 4: not at 3", Check.on(bowl + "dog 3 to 4;"), 1, 1, 595, 3, 75, 200, 200);
        told("two: the first that it comes to", Check.on(bowl + "dog 0 to 1;dog 1 to 2;"), 1, 2, 4, 2, 1, 200, 200);
        told("two: the one told first", Check.on(bowl + "dog 2 to 3;dog 0 to 1;"), 1, 2, 3, 3, 1, 200, 200);
        CoasterDay y = Check.on(bowl + "dog 0 to 4;dog 1 to 2;");
        Check.faulty(y, 0, bowl + "dog 0 to 4;dog 0 to 4;A", 1, 46);
        Check.tell(y, 0, bowl);
        told("none any more", y, 1, 1, 595, 3, 75, 200, 200);
        told("forth it isn't held", Check.on("high 9 5 0;drag 0;dog 0 to 2;dog 0 to 1;"), 1, 0, 2, 2, 0, 90, 90);
        told("at POINT 0 no dog holds", Check.on("high 0 1;dog 0 to 1;"), 1, 1, 0, 0, 2, 0, 0);
        told("where a chain is, too, the dog comes first", Check.on("high 0 0 0 20;drag 0;chain 1 to 2 speed 30;dog 0 to 1;"), 1,
            2, 15, 1, 1, 30, 30);
    }

    private static void backAtAChain() {
        Check.promise("5 back, where p is of a chain, it turns");
        // It rolls from 2, the chain's second POINT, to 1, its first one, and is pulled up again: 74 times, then 2 STEPS.
        told("1 to 2", Check.on("high 0 0 0 20;drag 0;chain 1 to 2 speed 30;"), 1, 1, 311, 1, 149, 30, 30);
        told("one behind another: the second one", Check.on("high 0 0 0 0 20;drag 0;chain 0 to 2 speed 30;chain 2 to 3 speed 30;"), 1,
            1, 302, 3, 149, 30, 30);
        told("LOSS at the chain's second POINT", Check.on("high 0 0 0 20;drag 1;push 9;chain 1 to 2 speed 0;"), 10, 1, 15, 2, 2, 0, 9);
    }

    private static void turnsTwice() {
        Check.promise("5 that turns twice without another POINT between is STUCK");
        told("at POINT 0", Check.on("high 0 9;drag 0;push 89;"), 1, 1, 0, 0, 2, 89, 89);
        told("in a valley", Check.on("high 10 0 10 20;drag 1;push 5;"), 1, 1, 1, 1, 2, 95, 95);
        // LOSS 1: by 109 to 1, 8 to 2, a turn, 107, 6, a turn, 105, 4, a turn, 103, 2, a turn, 101, 0, a turn, 99 to 1: two turns.
        CoasterDay swing = Check.on("high 10 0 10 99;drag 1;push 10;");
        told("it swings out", swing, 10, 1, 39, 1, 7, 99, 109);
        speeds("as it first comes, at the farthest POINT, too", swing, 10, 10, 109, 8, -1);
    }

    private static void steps300() {
        Check.promise("5 STUCK behind 300 STEPS (a turn is one)");
        told("6 STEPS to and fro: 50 times", Check.on("high 10 0 10 20;drag 0;push 50;"), 1, 1, 200, 0, 100, 50, 150);
        told("8 STEPS: 37 times and 4", Check.on("high 10 0 0 10 20;drag 0;push 50;"), 1, 1, 225, 3, 75, 50, 150);
        told("4 STEPS: 75 times", Check.on("high 10 0 20;drag 0;push 50;"), 1, 1, 150, 0, 150, 50, 150);
        told("59 STEPS are the most straight on", Check.on("high" + " 0".repeat(60) + ";drag 0;"), 1, 0, 649, 59, 0, 0, 0);
    }

    private static void ticks() {
        Check.promise("5 TICKS: 1 and 40 by (4 and SPEED), cut, for each STEP to another POINT");
        int[][] due = {{0, 11}, {1, 9}, {2, 7}, {3, 6}, {4, 6}, {5, 5}, {6, 5}, {7, 4}, {9, 4}, {10, 3}, {16, 3}, {17, 2}, {36, 2}, {37, 1}, {999, 1}};
        for (int[] d : due) {
            Check.due("SPEED " + d[0], Check.on("high 0 0;drag 0;push " + d[0] + ";").run(1, 0, 0, 1), d[1]);
        }
        Check.due("SPEED as it is behind the STEP", Check.on("high 0 1;drag 0;push 46;").run(1, 0, 0, 1), 2);
        Check.due("a turn has none", Check.on("high 0 1;drag 0;").run(1, 0, 0, 1), 0);
    }

    private static void greatestSpeed() {
        Check.promise("5 the greatest SPEED on its way (with push)");
        Check.due("push", Check.on("high 0 1;drag 0;push 11;").run(1, 0, 0, 5), 11);
        Check.due("push that a chain takes away", Check.on("high 0 0;push 500;chain 0 to 1 speed 3;").run(1, 0, 0, 5), 500);
        Check.due("at the last POINT", Check.on("high 1 0;drag 0;push 11;").run(1, 0, 0, 5), 21);
        Check.due("between", Check.on("high 1 0 1;drag 0;push 11;").run(1, 0, 0, 5), 21);
        Check.due("none", Check.on("high 0 0;drag 0;").run(1, 0, 0, 5), 0);
    }

    private static void firstAndLastPoint() {
        Check.promise("6, 7 the first POINT, the last POINT");
        CoasterDay x = Check.on("high 0 0 0 9;drag 0;push 20;block 1;block 3;");
        speeds("it doesn't come to 3", x, 1, 20, 20, 20, -1);
        int[] blocks = {0, 1, 1, 2};
        for (int p = 0; p < blocks.length; p++) {
            Check.due("BLOCK of POINT " + p, x.point(p, 1), blocks[p]);
        }
        Check.due("POINT -1", x.point(-1, 1), -2);
        Check.due("POINT 4", x.point(4, 1), -2);
        Check.due("one BLOCK", Check.on("high 0 0;").point(1, 1), 0);
        Check.due("60 POINTS", Check.on("high" + " 0".repeat(60) + ";block 59;").point(59, 1), 1);
    }

    /** 100 less p is SPEED at p, and FELT at POINT 1 is 10 and half of SPEED at POINT 1 and s. */
    private static void feltBehindTheLast() {
        Check.promise("8 p and s: nothing, if that is no POINT, or it doesn't come there");
        CoasterDay x = Check.on("high 10 0 0 0 0 0 0 0 0 0 0;drag 1;");
        for (int s = 0; s <= 9; s++) {
            Check.due("11 POINTS, seat " + s, x.felt(10, 1, s), 10 + (99 - s) * 10 / 20);
        }
        Check.due("POINT 2, seat 8: the last POINT", x.felt(10, 2, 8), 10);
        Check.due("POINT 2, seat 9: none", x.felt(10, 2, 9), -100000);
        Check.due("POINT 9, seat 1", x.felt(10, 9, 1), 10);
        Check.due("POINT 9, seat 2", x.felt(10, 9, 2), -100000);
        CoasterDay y = Check.on("high 10 0 0 0 0 0 0 0 0 0;drag 1;");
        Check.due("10 POINTS, seat 8", y.felt(10, 1, 8), 10 + 91 * 10 / 20);
        Check.due("10 POINTS, seat 9", y.felt(10, 1, 9), -100000);
        CoasterDay z = Check.on("high 10 0 0 11 0;drag 0;");
        Check.due("as far as it comes", z.felt(1, 1, 1), 60);
        Check.due("where it doesn't come", z.felt(1, 1, 2), -100000);
        Check.due("at a POINT where it doesn't come", z.felt(1, 3, 0), -100000);
    }

    private static void feltCut() {
        Check.promise("8 FELT by 20, cut");
        Check.due("19 by 20", Check.on("high 1 0 0;drag 0;push 9;").felt(1, 1, 0), 10);
        Check.due("20 by 20", Check.on("high 1 0 0;drag 0;push 10;").felt(1, 1, 0), 11);
        Check.due("-19 by 20", Check.on("high 0 1 1;drag 0;push 29;").felt(1, 1, 0), 10);
        Check.due("-20 by 20", Check.on("high 0 1 1;drag 0;push 30;").felt(1, 1, 0), 9);
        Check.due("the greatest: 999 times 198", Check.on("high 99 0 99;drag 0;push 999;").felt(1, 1, 0), 9900);
        Check.due("the least: 999 times -198", Check.on("high 0 99 0;chain 0 to 1 speed 999;").felt(1, 1, 0), -9880);
    }

    private static void feelsNothing() {
        Check.promise("9 feels: nothing");
        CoasterDay x = Check.on("high 10 0 0 0 0 0 0 0 0 0 0;drag 1;");
        Check.due("seat 9: POINT 1 alone, the greatest", x.feels(10, 9, true), 55);
        Check.due("seat 9: POINT 1 alone, the least", x.feels(10, 9, false), 55);
        Check.due("10 POINTS, seat 9", Check.on("high 10 0 0 0 0 0 0 0 0 0;drag 1;").feels(10, 9, true), -100000);
        Check.due("two POINTS", Check.on("high 10 0;").feels(10, 0, true), -100000);
        Check.due("three POINTS", Check.on("high 10 0 0;drag 1;").feels(10, 0, true), 59);
        Check.due("it comes to POINT 0 alone", Check.on("high 0 9 0;").feels(10, 0, false), -100000);
        CoasterDay y = Check.on("high 0 20 40 0;drag 0;push 999;");
        Check.due("both below 0, the greatest: 599 times -60 by 20 and 799 times 0", y.feels(1, 0, true), 10);
        Check.due("the least", y.feels(1, 0, false), 10 - 1797);
        CoasterDay z = Check.on("high 0 99 0;chain 0 to 1 speed 999;");
        Check.due("the greatest is below 0", z.feels(1, 0, true), -9880);
    }

    /** By WEIGHT w a RUN is OUT as long as twice the WIND is below w. */
    private static void odds() {
        Check.promise("10 ODDS from one to one");
        CoasterDay x = Check.on("high 0 0;drag 0;");
        Check.due("one RUN, OUT", x.odds(1, 1, 0, 0, 0), 0);
        Check.due("one RUN, not OUT", x.odds(1, 1, 1, 1, 0), 1);
        Check.due("by COLD", x.odds(1, 1, 0, 0, 1), 1);
        Check.due("the least WEIGHT", x.odds(1, 1, 0, 99, 0), 99);
        Check.due("the greatest WEIGHT", x.odds(20, 20, 0, 99, 0), 90);
        Check.due("WIND 9", x.odds(20, 20, 9, 9, 0), 0);
        Check.due("WIND 10", x.odds(20, 20, 10, 10, 0), 1);
        Check.due("all of both", x.odds(1, 20, 0, 99, 0), 1890);
        Check.due("the greatest COLD", x.odds(1, 20, 0, 99, 99), 2000);
        Check.due("two WEIGHTS", x.odds(19, 20, 9, 10, 0), 2);
    }

    private static void restart() {
        Check.promise("28 the least SPEED (0 to 999); NONE: by none");
        CoasterDay x = Check.on("high 0 0 99;drag 9;push 999;");
        Check.due("from the last POINT but one: 999", x.restart(10, 1), 999);
        Check.due("from the first one: 1008", x.restart(10, 0), -1);
        Check.due("from the last one", x.restart(1, 2), 0);
        Check.due("LOSS 10", Check.on("high 0 99;drag 10;").restart(10, 0), -1);
        Check.due("LOSS 8", Check.on("high 0 99;drag 8;").restart(10, 0), 998);
        Check.due("1", Check.on("high 0 0;drag 1;").restart(10, 0), 1);
        Check.due("0", Check.on("high 0 0;drag 0;").restart(1, 0), 0);
        Check.due("0 by push 999", Check.on("high 1 0;drag 0;push 999;").restart(1, 0), 0);
        // The chain is too slow for any hill: by 10 it gets on top of 2, by 500 of 3.
        CoasterDay y = Check.on("high 0 0 1 50 0;drag 0;chain 0 to 1 speed 5;");
        Check.due("back to a chain that is too slow", y.restart(1, 1), 500);
        Check.due("back to it from farther on", y.restart(1, 2), 490);
        Check.due("from its first POINT", y.restart(1, 0), -1);
        // What is above 999 is lost: from 200 on it would be 1000 at 1, and 999 isn't enough to go up 100 and LOSS 1.
        Check.due("lost above 999", Check.on("high 80 0 99;drag 1;").restart(1, 0), -1);
        // By 40 to 49 it is back at 1 with SPEED, turns at 0 and has 40 to 49 again: only 50 gets over.
        Check.due("over the top", Check.on("high 10 0 15 0;drag 0;").restart(1, 0), 50);
    }

    private static void valleys() {
        Check.promise("29 VALLEYS: neither the first nor the last one, lower than both beside them");
        Check.due("two POINTS", Check.on("high 9 0;").valley(-1), 0);
        Check.due("the first is low", Check.on("high 0 9 9;").valley(-1), 0);
        Check.due("the last is low", Check.on("high 9 9 0;").valley(-1), 0);
        Check.due("as low as the one ahead", Check.on("high 9 0 0;").valley(-1), 0);
        Check.due("as low as the one behind", Check.on("high 0 0 9;").valley(-1), 0);
        Check.due("1 lower", Check.on("high 1 0 1;").valley(-1), 1);
        CoasterDay x = Check.on("high" + " 1 0".repeat(29) + " 1 0;");
        Check.due("all that can be", x.valley(-1), 29);
        Check.due("the first", x.valley(0), 1);
        Check.due("the last", x.valley(28), 57);
        Check.due("behind", x.valley(29), -1);
        Check.due("below", x.valley(-2), -1);
        Check.due("far off", x.valley(Integer.MIN_VALUE), -1);
    }

    private static void stretch() {
        Check.promise("44, 46 SLIP: STRETCH by 1000, cut; less by its SLIP (0 at least)");
        CoasterDay x = Check.on("high 0 0 0;drag 0;chain 0 to 1 speed 2;chain 1 to 2 speed 1;");
        Check.due("999", x.lift(0, 1, 999), 999);
        Check.due("SLIP 0", x.stretched(1, 5), 2);
        Check.due("1000", x.lift(0, 1, 1), 1000);
        Check.due("SLIP 1", x.stretched(1, 1), 9 + 9);
        Check.due("1999", x.lift(0, 1, 999), 1999);
        Check.due("SLIP 1", x.stretched(1, 5), 1);
        Check.due("2000", x.lift(0, 1, 1), 2000);
        Check.due("SLIP 2: speed 0", x.stretched(1, 1), 11 + 9);
        x.lift(0, 20, 999);
        Check.due("0 at least", x.stretched(1, 1), 11 + 9);
        Check.due("the other chain", x.lift(1, 1, 999), 999);
        Check.due("SLIP 2 and 0", x.stretched(1, 1), 11 + 9);
        Check.due("the other chain", x.lift(1, 1, 1), 1000);
        Check.due("both", x.stretched(1, 1), 22);
        Check.due("OUT", x.stretched(1, 0), 0);
        Check.due("a RUN is as ever", x.run(1, 0, 0, 1), 7 + 9);
        CoasterDay calm = Check.on("high 0 0;drag 0;");
        Check.due("without WIND and COLD", calm.stretched(1, 0), 0);
        Check.tell(x, 0, "high 0 0 0;drag 0;chain 0 to 1 speed 2;chain 1 to 2 speed 1;");
        Check.due("no STRETCH with a new TRACK", x.stretched(1, 1), 16);
        Check.due("no STRETCH with a new TRACK", x.lift(1, 1, 1), 1);
    }

    private static void slips() {
        Check.promise("45 till its SLIP is its speed or more (0: it is)");
        CoasterDay x = Check.on("high 0 0;chain 0 to 1 speed 1;");
        Check.due("1000 by 1", x.slips(0, 1), 1000);
        Check.due("1000 by 20", x.slips(0, 20), 50);
        Check.due("1000 by 19", x.slips(0, 19), 53);
        x.lift(0, 1, 999);
        Check.due("1 by 1", x.slips(0, 1), 1);
        Check.due("1 by 20", x.slips(0, 20), 1);
        x.lift(0, 1, 1);
        Check.due("it is", x.slips(0, 1), 0);
        x.lift(0, 20, 999);
        Check.due("more", x.slips(0, 20), 0);
        CoasterDay y = Check.on("high 0 0;chain 0 to 1 speed 0;");
        Check.due("speed 0", y.slips(0, 1), 0);
        CoasterDay z = Check.on("high 0 0;chain 0 to 1 speed 999;");
        Check.due("999000 by 1", z.slips(0, 1), 999000);
        Check.due("999000 by 20", z.slips(0, 20), 49950);
    }

    /** What is known of RUNS on one TRACK mustn't be told of another one. */
    private static void anotherTrack() {
        Check.promise("3, 53 another TRACK");
        CoasterDay x = Check.on("high 0 0;drag 0;");
        x.image(0);
        Check.due("OUT by 0", x.odds(1, 1, 0, 1, 0), 1);
        Check.tell(x, 0, "high 0 9;drag 0;");
        Check.due("never OUT", x.odds(1, 1, 0, 1, 0), 2);
        Check.tell(x, 0, "high 9 0;drag 0;");
        Check.due("OUT", x.odds(1, 1, 0, 1, 0), 0);
        x.restore(0);
        Check.due("OUT by 0 again", x.odds(1, 1, 0, 1, 0), 1);
        Check.tell(x, 0, "high 9 0;drag;");
        Check.due("with a FAULT it stays", x.odds(1, 1, 0, 1, 0), 1);
    }
}
