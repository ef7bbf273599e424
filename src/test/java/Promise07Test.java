/** Promise 7: worth of a sort to one, as of the first of his. */
public final class Promise07Test {
    public static void main(String[] args) {
        TwoForOne x = Check.town("sorts 3;person worth 2 99 worth 0 1 has 2 5 falls 50 pair 0 2 9;person worth 1 7;");
        int[][] worths = {{1, 0, 99}, {0, 7, 0}};
        for (int person = 0; person < 2; person++) {
            for (int sort = 0; sort < 3; sort++) {
                Check.due("likes " + person + " " + sort, x.likes(person, sort), worths[person][sort]);
            }
        }
        Check.none("no such person", () -> x.likes(2, 0));
        Check.none("no such person", () -> x.likes(-1, 0));
        Check.none("no such sort", () -> x.likes(0, 3));
        Check.none("no such sort", () -> x.likes(0, -1));
        Check.end();
    }
}
