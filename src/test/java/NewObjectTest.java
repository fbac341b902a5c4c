/** Promise 1, and what every call answers without a TRACK: of several wrongs that which the call tells first. */
public final class NewObjectTest {
    public static void main(String[] args) {
        newObject();
        withoutTrack();
        wrongNumbersWithoutTrack();
        Check.end();
    }

    private static void newObject() {
        CoasterDay x = new CoasterDay();
        Check.promise("1 a new object");
        Check.due("NONE", CoasterDay.NONE, -1);
        for (int what = 0; what <= 15; what++) {
            Check.due("count(" + what + ")", x.count(what), 0);
        }
        Check.due("fault(0)", x.fault(0), 0);
        Check.due("fault(1)", x.fault(1), -1);
        Check.due("quiet", x.quiet(), -1);
        Check.due("restore(0)", x.restore(0), -5);
        Check.due("restore(1)", x.restore(1), -5);
        Check.due("write", x.write(0, 0, 1), -6);
    }

    /** POINTS, BLOCKS and bits of BLOCKS aren't looked at then. */
    private static void withoutTrack() {
        CoasterDay x = new CoasterDay();
        Check.promise("1 without a TRACK");
        Check.due("text(1, 0)", x.text(1, 0), -5);
        Check.due("run", x.run(1, 0, 0, 0), -5);
        Check.due("speed", x.speed(1, -7), -5);
        Check.due("point", x.point(99, 0), -5);
        Check.due("felt", x.felt(1, 99, 0), -5);
        Check.due("feels", x.feels(1, 0, true), -5);
        Check.due("odds", x.odds(1, 1, 0, 0, 0), -5);
        Check.due("row", x.row(0, -1, 0, 0), -5);
        Check.due("leaves", x.leaves(64, 9), -5);
        Check.due("time", x.time(1, 9), -5);
        Check.due("holds", x.holds(1, 1, 1, -1, 0), -5);
        Check.due("beat", x.beat(1, 1, 0, 0), -5);
        Check.due("log", x.log(0, 1, 1, 0), -5);
        Check.due("fits", x.fits(-1), -5);
        Check.due("worn", x.worn(), -5);
        Check.due("stair", x.stair(-4), -5);
        Check.due("walk", x.walk(77, 0), -5);
        Check.due("worst", x.worst(0), -5);
        Check.due("restart", x.restart(1, 77), -5);
        Check.due("valley", x.valley(-1), -5);
        Check.due("cross", x.cross(1, 77, 1, 1, 0, 1, 0), -5);
        Check.due("clear", x.clear(1, 77, 1, 0, 1, 0), -5);
        Check.due("stay", x.stay(0, 77, 0, 0), -5);
        Check.due("led", x.led(0, 1), -2);
        Check.due("leads", x.leads(0, 1), -5);
        Check.due("grow", x.grow(1, 1, 0), -5);
        Check.due("growths", x.growths(-1), -5);
        Check.due("foretold", x.foretold(0, true), -5);
        Check.due("crew", x.crew(0, 0), -5);
        Check.due("bare", x.bare(), -5);
        Check.due("lift", x.lift(0, 1, 1), -2);
        Check.due("slips", x.slips(0, 1), -2);
        Check.due("stretched", x.stretched(1, 0), -5);
        Check.due("riders", x.riders(1, 1, 0, 0, 1), -5);
        Check.due("storm", x.storm(0, 1), -5);
        Check.due("keep", x.keep(0, 1), -5);
        for (int what = 0; what <= 15; what++) {
            Check.due("count(" + what + ") behind them", x.count(what), 0);
        }
    }

    private static void wrongNumbersWithoutTrack() {
        CoasterDay x = new CoasterDay();
        Check.promise("1 wrong numbers without a TRACK");
        Check.due("run what and weight", x.run(0, 0, 0, 6), -2);
        Check.due("run weight", x.run(0, 0, 0, 0), -3);
        Check.due("speed weight", x.speed(21, 99), -3);
        Check.due("point what", x.point(99, 2), -2);
        Check.due("felt seat", x.felt(0, 99, 10), -2);
        Check.due("felt weight", x.felt(0, 99, 9), -3);
        Check.due("row what", x.row(2, 64, 4, 0), -2);
        Check.due("row lies", x.row(1, 64, 4, 0), -3);
        Check.due("time weight", x.time(0, 99), -3);
        Check.due("holds which", x.holds(0, 3, 0, 3, 0), -2);
        Check.due("log train", x.log(4, 0, 0, 0), -2);
        Check.due("log weight", x.log(3, 0, 0, 0), -3);
        Check.due("walk what", x.walk(99, 2), -2);
        Check.due("worst what", x.worst(-1), -2);
        Check.due("restart weight", x.restart(0, 99), -3);
        Check.due("cross near", x.cross(1, 99, 1, 1, 0, 1, 100), -3);
        Check.due("clear every", x.clear(1, 99, 1, 0, 0, 0), -3);
        Check.due("stay train", x.stay(-1, 99, 0, 0), -2);
        Check.due("stay hour", x.stay(0, 99, -1, 0), -3);
        Check.due("leads to", x.leads(4, 0), -2);
        Check.due("grow off", x.grow(1, 1, 100), -3);
        Check.due("foretold day", x.foretold(100, false), -3);
        Check.due("crew what", x.crew(24, 2), -2);
        Check.due("crew hour", x.crew(24, 1), -3);
        Check.due("lift chain and weight", x.lift(0, 0, 0), -2);
        Check.due("stretched what", x.stretched(0, 6), -2);
        Check.due("storm row", x.storm(4, 0), -2);
        Check.due("storm weight", x.storm(0, 0), -3);
        Check.due("keep row", x.keep(-1, 0), -2);
        Check.due("keep weight", x.keep(3, 21), -3);
    }
}
