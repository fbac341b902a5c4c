/** Promises 19 to 27: STAIRS, TESTS, PARTS. */
public final class StairsTest {
    public static void main(String[] args) {
        stair();
        walk();
        worst();
        test();
        cover();
        part();
        age();
        days();
        first();
        Check.end();
    }

    private static void stair() {
        Check.promise("19 stair");
        CoasterDay x = Check.on("high 1 2 3 4 5 6 7 8;");
        for (int k = 0; k < 6; k++) {
            Check.due("stair(" + (7 - k) + ")", x.stair(7 - k), k + 1);
        }
        Check.due("there is one", x.stair(7), -3);
        Check.due("a 7th", x.stair(0), -4);
        Check.due("POINT", x.stair(8), -2);
        Check.due("POINT", x.stair(-1), -2);
        Check.due("six", x.count(8), 6);
    }

    private static void walk() {
        Check.promise("20 walk");
        CoasterDay x = Check.on("high 0 4 5 9 99 9;");
        Check.due("no STAIRS", x.walk(0, 0), -1);
        Check.due("no STAIRS", x.walk(0, 1), -1);
        x.stair(3);
        Check.due("to itself", x.walk(3, 0), 0);
        Check.due("9 by 5, cut", x.walk(0, 0), 4);
        Check.due("4 by 5, cut", x.walk(2, 0), 1);
        Check.due("90 by 5", x.walk(4, 0), 19);
        Check.due("the next but one, of like height", x.walk(5, 0), 2);
        x.stair(1);
        Check.due("the nearer one", x.walk(0, 1), 1);
        Check.due("of like ones the least", x.walk(2, 1), 1);
        Check.due("its length", x.walk(2, 0), 1);
        Check.due("the farther numbers", x.walk(5, 1), 3);
        Check.due("POINT", x.walk(6, 0), -2);
        Check.due("POINT", x.walk(-1, 0), -2);
        Check.due("what", x.walk(0, 2), -2);
        Check.due("what", x.walk(0, -1), -2);
    }

    private static void worst() {
        Check.promise("21 worst");
        CoasterDay x = Check.on("high 5 5 5 5 5 5 5;");
        Check.due("no STAIRS", x.worst(0), -1);
        Check.due("BEST: the middle", x.worst(1), 3);
        x.stair(0);
        Check.due("from the end", x.worst(0), 6);
        Check.due("BEST: 4 makes it 2, and 5, the first such", x.worst(1), 4);
        x.stair(4);
        Check.due("two", x.worst(0), 2);
        Check.due("BEST: none makes it less", x.worst(1), 0);
        x.stair(2);
        x.stair(6);
        Check.due("four", x.worst(0), 1);
        CoasterDay y = Check.on("high 0 99;");
        Check.due("by height", y.worst(1), 0);
        y.stair(1);
        Check.due("by height", y.worst(0), 20);
        Check.due("BEST", y.worst(1), 0);
        y.stair(0);
        Check.due("BEST where each POINT has one", y.worst(1), 0);
        CoasterDay z = Check.on("high 0 50 99 99;");
        z.stair(3);
        Check.due("BEST: 0 or 1 leave 11, the first such", z.worst(1), 0);
        CoasterDay w = Check.on("high 50 50 0 50 50;");
        w.stair(4);
        Check.due("BEST: the deep POINT", w.worst(1), 2);
        CoasterDay v = Check.on("high 5 5 5;");
        Check.due("BEST: the one between", v.worst(1), 1);
        Check.due("what", x.worst(2), -2);
        Check.due("what", x.worst(-1), -2);
    }

    private static void test() {
        Check.promise("22 test");
        CoasterDay x = new CoasterDay();
        Check.due("covers", x.test(4096, 1), -3);
        Check.due("covers", x.test(-1, 1), -3);
        Check.due("cost", x.test(1, 0), -3);
        Check.due("cost", x.test(1, 100), -3);
        for (int k = 0; k < 10; k++) {
            Check.due("test " + k, x.test(k == 0 ? 0 : 4095, k == 0 ? 99 : 1), k);
        }
        Check.due("an 11th", x.test(1, 1), -4);
        Check.due("a wrong 11th", x.test(1, 0), -3);
        Check.due("ten", x.count(9), 10);
    }

    private static void cover() {
        Check.promise("23 cover");
        CoasterDay x = new CoasterDay();
        Check.due("nothing is covered by nothing", x.cover(0, 0), 0);
        Check.due("by no TESTS", x.cover(0, 1), 0);
        Check.due("none covers it", x.cover(1, 0), -1);
        Check.due("none covers it", x.cover(1, 1), -1);
        int[][] tests = {{3, 5}, {4, 2}, {7, 7}, {1, 3}, {2, 2}, {7, 7}, {2048, 99}};
        for (int[] t : tests) {
            x.test(t[0], t[1]);
        }
        Check.due("7 at 7", x.cover(7, 0), 7);
        Check.due("of like costs the fewest, then the least set", x.cover(7, 1), 4);
        Check.due("3 at 5", x.cover(3, 0), 5);
        Check.due("one, not two", x.cover(3, 1), 1);
        Check.due("2 at 2", x.cover(2, 1), 16);
        Check.due("2 and 4 at 4", x.cover(6, 0), 4);
        Check.due("two of them", x.cover(6, 1), 18);
        Check.due("bit 11", x.cover(2048 + 4, 0), 101);
        Check.due("bit 11", x.cover(2048 + 4, 1), 66);
        Check.due("a bit of none", x.cover(8, 1), -1);
        Check.due("all bits", x.cover(4095, 0), -1);
        CoasterDay y = new CoasterDay();
        y.test(1, 9);
        y.test(4095, 8);
        Check.due("by cost, not by what it covers", y.cover(1, 1), 2);
        Check.due("all bits", y.cover(4095, 0), 8);
        Check.due("what", x.cover(4096, 2), -2);
        Check.due("what", x.cover(1, -1), -2);
        Check.due("set", x.cover(4096, 1), -3);
        Check.due("set", x.cover(-1, 0), -3);
    }

    private static void part() {
        Check.promise("24 part");
        CoasterDay x = new CoasterDay();
        Check.due("HOURS", x.part(-1, 1), -3);
        Check.due("HOURS", x.part(10000, 1), -3);
        Check.due("most", x.part(0, 0), -3);
        Check.due("most", x.part(0, 10000), -3);
        for (int k = 0; k < 8; k++) {
            Check.due("part " + k, x.part(k == 0 ? 9999 : 0, k == 0 ? 1 : 9999), k);
        }
        Check.due("a 9th", x.part(1, 1), -4);
        Check.due("a wrong 9th", x.part(1, 0), -3);
        Check.due("eight", x.count(10), 8);
    }

    private static void age() {
        Check.promise("25 age");
        CoasterDay x = new CoasterDay();
        Check.due("no PARTS", x.age(1), 0);
        x.part(90, 100);
        x.part(0, 20);
        x.part(0, 9999);
        Check.due("up to what they may", x.age(10), 0);
        Check.due("one has more", x.age(1), 1);
        Check.due("two have", x.age(10), 2);
        Check.due("all", x.age(9999), 3);
        Check.due("on and on", x.age(9999), 3);
        Check.due("HOURS", x.age(0), -3);
        Check.due("HOURS", x.age(10000), -3);
    }

    private static void days() {
        Check.promise("26 days");
        CoasterDay x = new CoasterDay();
        x.part(90, 100);
        x.part(10, 50);
        x.part(60, 50);
        Check.due("10 by 3", x.days(0, 3), 3);
        Check.due("10 by 10", x.days(0, 10), 1);
        Check.due("10 by 11", x.days(0, 11), 0);
        Check.due("40 by 1", x.days(1, 1), 40);
        Check.due("it has them already", x.days(2, 1), 0);
        x.age(5);
        Check.due("5 by 5", x.days(0, 5), 1);
        x.age(5);
        Check.due("none", x.days(0, 1), 0);
        Check.due("PART", x.days(3, 0), -2);
        Check.due("PART", x.days(-1, 1), -2);
        Check.due("HOURS", x.days(0, 0), -3);
        Check.due("HOURS", x.days(0, 25), -3);
    }

    private static void first() {
        Check.promise("27 first");
        CoasterDay x = new CoasterDay();
        Check.due("HOURS", x.first(0), -3);
        Check.due("HOURS", x.first(25), -3);
        Check.due("no PARTS", x.first(24), -5);
        x.part(0, 100);
        x.part(60, 100);
        x.part(59, 100);
        Check.due("40 ahead of 41", x.first(1), 1);
        x.part(0, 39);
        Check.due("39", x.first(1), 3);
        Check.due("by 24 whole days are alike: the least number", x.first(24), 1);
        x.age(9999);
        Check.due("all have none", x.first(1), 0);
    }
}
