/** Promise 1: a new object has one sort and no people. */
public final class Promise01Test {
    public static void main(String[] args) {
        TwoForOne x = new TwoForOne();
        int[] counts = {0, 1, 2, -1, 0, 0, 0, 0, 0, 0, 0, 0};
        for (int what = 0; what < counts.length; what++) {
            Check.due("count " + what, x.count(what), counts[what]);
        }
        Check.due("fault", x.fault(), -1);
        Check.due("worth of all", x.worth(-1), 0);
        Check.due("left", x.left(0), 0);
        Check.none("left of sort 1", () -> x.left(1));
        Check.none("has", () -> x.has(0, 0));
        Check.none("worth of one", () -> x.worth(0));
        Check.none("step", () -> x.step(0, 0));
        Check.none("bag", () -> x.bag(0));
        Check.none("ordered", () -> x.ordered(0));
        Check.none("shared", () -> x.shared(0, 0));
        Check.due("restore", x.restore(), false);
        Check.due("most", x.most(), 0);
        Check.due("freely", x.freely(), 0);
        Check.due("order", x.order(), 0);
        Check.due("share", x.share(0), -1);
        Check.due("best", x.best(), 0);
        Check.due("days", x.days(60), 0);
        Check.bad("run", () -> x.run(0, 1));
        Check.end();
    }
}
