/** Promise 1, and what every call answers without a TRACK. */
public final class NewObjectTest {
    public static void main(String[] args) {
        CoasterDay x = new CoasterDay();
        Check.promise("1 a new object");
        Check.due("NONE", CoasterDay.NONE, -1);
        for (int what = 0; what <= 15; what++) {
            Check.due("count(" + what + ")", x.count(what), 0);
        }
        Check.due("run", x.run(1, 0, 0, 0), -5);
        Check.end();
    }
}
