/** Promise 4: the place of the latest town's fault. */
public final class Promise04Test {
    public static void main(String[] args) {
        TwoForOne x = new TwoForOne();
        Check.due("at first", x.fault(), -1);
        Check.tell(x, "person has 0 21;");
        Check.due("a place", x.fault(), 13);
        Check.bad("not so many", () -> x.town(5));
        Check.due("no town, so it stays", x.fault(), 13);
        Check.tell(x, "foo");
        Check.due("the first byte", x.fault(), 0);
        Check.tell(x, "person;");
        Check.due("none", x.fault(), -1);
        Check.tell(x, " person");
        Check.due("the text's length", x.fault(), 7);
        Check.tell(x, "");
        Check.due("none again", x.fault(), -1);
        String text = "person;" + " ".repeat(692) + "x";
        Check.due("a long text", Check.tell(x, text), 1);
        Check.due("its last byte", x.fault(), 699);
        text = "person;" + " ".repeat(686) + "person ";
        Check.due("a long text that ends too soon", Check.tell(x, text), 1);
        Check.due("its length", x.fault(), 700);
        Check.due("many tokens", Check.tell(x, ";".repeat(700)), 1);
        Check.due("the first", x.fault(), 0);
        Check.end();
    }
}
