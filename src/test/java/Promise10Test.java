/** Promise 10: who meets whom. */
public final class Promise10Test {
    public static void main(String[] args) {
        TwoForOne x = Check.town("person;person;person;meet 2 0;meet 0 1;meet 0 2;");
        int[][] pairs = {{2, 0}, {0, 1}, {0, 2}};
        for (int m = 0; m < 3; m++) {
            Check.due("first of " + m, x.meeting(m, 0), pairs[m][0]);
            Check.due("second of " + m, x.meeting(m, 1), pairs[m][1]);
        }
        Check.none("no such meeting", () -> x.meeting(3, 0));
        Check.none("no such meeting", () -> x.meeting(-1, 0));
        Check.none("no such what", () -> x.meeting(0, 2));
        Check.none("no such what", () -> x.meeting(0, -1));
        Check.end();
    }
}
