/** Promises 4, 17 and 19: sell, account by sales, sold. */
public final class SellTest {
    public static void main(String[] args) {
        Due due = new Due("SellTest");
        sales(due);
        wrongArguments(due);
        due.end();
    }

    private static void sales(Due due) {
        Cablecourt x = new Cablecourt();
        x.cable(0, 1, 8, 3);
        due.is("sell(0, 3, 1, 5, 100000)", x.sell(0, 3, 1, 5, 100000), 5);
        due.is("owned(0, 3)", x.owned(0, 3), 3);
        due.is("owned(0, 1)", x.owned(0, 1), 5);
        due.is("sold(3, 1)", x.sold(3, 1), 100000);
        due.is("sold(1, 3)", x.sold(1, 3), 0);
        due.is("sell(0, 3, 1, 1, 7)", x.sell(0, 3, 1, 1, 7), 6);
        due.is("sold in all", x.sold(3, 1), 100007);
        due.is("sell back", x.sell(0, 1, 3, 6, 0), 8);
        due.is("nothing set off", x.sold(3, 1), 100007);
        due.is("sold for nothing", x.sold(1, 3), 0);
        due.is("sell all", x.sell(0, 3, 5, 8, 30), 8);
        due.is("account(3)", x.account(3), 100037);
        due.is("account(1)", x.account(1), -100007);
        due.is("account(5)", x.account(5), -30);
        due.is("the club has no part", x.account(Cablecourt.NONE), 0);
        due.is("spent is for ships", x.spent(), 0);
        due.is("sold to itself", x.sold(3, 3), 0);
        x.cut(0, 0);
        due.is("of a cut cable too", x.sell(0, 5, 0, 1, 0), 1);
    }

    private static void wrongArguments(Due due) {
        Cablecourt x = new Cablecourt();
        x.cable(0, 1, 4, 0);
        due.index("cable 1", () -> x.sell(1, 0, 1, 1, 0));
        due.index("cable -1", () -> x.sell(-1, 0, 1, 1, 0));
        due.index("member 6", () -> x.sell(0, 6, 1, 1, 0));
        due.index("member -1", () -> x.sell(0, -1, 1, 1, 0));
        due.index("other 6", () -> x.sell(0, 0, 6, 1, 0));
        due.index("other -1", () -> x.sell(0, 0, -1, 1, 0));
        due.index("index before argument", () -> x.sell(1, 0, 0, 0, -1));
        due.argument("same members", () -> x.sell(0, 0, 0, 1, 0));
        due.argument("strands 0", () -> x.sell(0, 0, 1, 0, 0));
        due.argument("strands 9", () -> x.sell(0, 0, 1, 9, 0));
        due.argument("price -1", () -> x.sell(0, 0, 1, 1, -1));
        due.argument("price 100001", () -> x.sell(0, 0, 1, 1, 100001));
        due.argument("argument before state", () -> x.sell(0, 1, 0, 1, -1));
        due.state("more than there are", () -> x.sell(0, 0, 1, 5, 0));
        due.state("none owned", () -> x.sell(0, 1, 0, 1, 0));
        due.is("nothing changed", x.owned(0, 0), 4);
        due.is("no account changed", x.account(0), 0);
        due.index("account(6)", () -> x.account(6));
        due.index("account(-2)", () -> x.account(-2));
        due.index("sold(6, 0)", () -> x.sold(6, 0));
        due.index("sold(0, 6)", () -> x.sold(0, 6));
        due.index("sold(-1, 0)", () -> x.sold(-1, 0));
        due.index("sold(0, -1)", () -> x.sold(0, -1));
    }
}
