/** Promise 1: a new object. */
public final class NewObjectTest {
    public static void main(String[] args) {
        Due due = new Due();
        Counted x = new Counted();
        for (int h = 0; h < 2; h++) {
            due.is("flying", x.flying(h), 0);
            due.is("octet", x.octet(h, 0, 0), -1);
            due.is("octet, size", x.octet(h, 0, -1), -1);
            due.is("carry", x.carry(h), -1);
            for (int what = 0; what < 8; what++) {
                due.is("host what " + what, x.host(h, what), what == 3 ? -1 : 0);
            }
            for (int p = 1; p <= 2; p++) {
                for (int what = 0; what < 11; what++) {
                    due.is("socket what " + what, x.socket(h, p, what), what == 8 ? 4 : 0);
                }
                due.is("read", x.read(h, p), -1);
                due.no("abort", x.abort(h, p));
            }
        }
        due.is("the first tick", x.tick(1), 1);
        twoObjectsAreApart(due);
        due.is("NONE", WireHosts.NONE, -1);
        due.end();
    }

    private static void twoObjectsAreApart(Due due) {
        Counted one = new Counted();
        Counted two = new Counted();
        one.ping(0, 1, 1);
        one.listen(0, 1);
        one.tick(5);
        due.is("flying of the other", two.flying(1), 0);
        due.is("state of the other", two.socket(0, 1, 0), 0);
        due.is("clock of the other", two.tick(1), 1);
    }
}
