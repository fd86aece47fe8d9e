/** Promise 1: a new object is in the hour 0, without cables, demands, cuts, ships, loans and payments. */
public final class NewObjectTest {
    public static void main(String[] args) {
        Due due = new Due("NewObjectTest");
        Cablecourt x = new Cablecourt();
        due.is("NONE", Cablecourt.NONE, -1);
        due.index("isWhole(0)", () -> x.isWhole(0));
        due.index("owned(0, 0)", () -> x.owned(0, 0));
        due.index("way(0)", () -> x.way(0));
        due.index("lent(0)", () -> x.lent(0));
        due.index("place(0)", () -> x.place(0));
        due.index("worked(0)", () -> x.worked(0));
        for (int member = 0; member < 6; member++) {
            due.is("account", x.account(member), 0);
            for (int other = 0; other < 6; other++) {
                due.is("owes", x.owes(member, other), 0);
                due.is("owesAnew", x.owesAnew(member, other), 0);
                due.is("sold", x.sold(member, other), 0);
            }
        }
        due.is("account(NONE)", x.account(Cablecourt.NONE), 0);
        due.is("spent", x.spent(), 0);
        due.is("seal", x.seal(), 0);
        due.is("pass(1)", x.pass(1), 1);
        Cablecourt second = new Cablecourt();
        due.is("a second object begins anew", second.pass(2), 2);
        due.is("cable", second.cable(0, 1, 1, 0), 0);
        due.index("the first object has none", () -> x.isWhole(0));
        due.end();
    }
}
