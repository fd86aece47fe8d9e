/** Boundary cases of sales and accounts: the promises 4, 17 and 19. */
public final class SellBoundsTest {
    private static final int NONE = Cablecourt.NONE;

    public static void main(String[] args) {
        Due due = new Due("SellBoundsTest");
        strands(due);
        prices(due);
        whatTheOtherOwnsThen(due);
        ownsFewer(due);
        argumentsRefused(due);
        noSuchCableOrMember(due);
        accountAtItsEnds(due);
        accountOfAll(due);
        soldAtItsEnds(due);
        dearestSales(due);
        due.end();
    }

    private static void strands(Due due) {
        due.sentence(4, "`strands`: 1 to 8");
        for (int strands = 1; strands <= 8; strands++) {
            Cablecourt x = new Cablecourt();
            x.cable(0, 1, 8, 0);
            due.is("sell " + strands, x.sell(0, 0, 5, strands, 0), strands);
            due.is("the seller has the others", x.owned(0, 0), 8 - strands);
            due.is("the buyer has them", x.owned(0, 5), strands);
        }
        Cablecourt x = new Cablecourt();
        x.cable(0, 1, 8, 0);
        due.argument("sell 0", () -> x.sell(0, 0, 5, 0, 0));
        due.argument("sell 9", () -> x.sell(0, 0, 5, 9, 0));
        due.sentence(4, "Sells strands of a cable.");
        x.cable(0, 1, 8, 0);
        due.is("of the second one", x.sell(1, 0, 3, 2, 5), 2);
        due.is("not of the first one", x.owned(0, 3), 0);
        due.is("paid", x.account(3), -5);
    }

    private static void prices(Due due) {
        due.sentence(4, "`price`: 0 to 100000, for all of them");
        Cablecourt x = new Cablecourt();
        x.cable(0, 1, 8, 0);
        due.is("for 0", x.sell(0, 0, 1, 3, 0), 3);
        due.is("nothing is paid", x.account(1), 0);
        due.is("for 1", x.sell(0, 0, 1, 2, 1), 5);
        due.is("1 for both", x.account(1), -1);
        due.is("1 is got for them", x.sold(0, 1), 1);
        due.is("for 99999", x.sell(0, 0, 2, 1, 99999), 1);
        due.is("99999", x.account(2), -99999);
        due.is("for 100000", x.sell(0, 0, 3, 2, 100000), 2);
        due.is("100000 for both", x.account(3), -100000);
        due.is("100000 is got for them", x.sold(0, 3), 100000);
        due.is("all is the seller's", x.account(0), 200000);
        due.argument("for -1", () -> x.sell(0, 1, 0, 1, -1));
        due.argument("for 100001", () -> x.sell(0, 1, 0, 1, 100001));
    }

    private static void whatTheOtherOwnsThen(Due due) {
        due.sentence(4, "Returns how many strands of the cable the other member owns then.");
        Cablecourt x = new Cablecourt();
        x.cable(0, 1, 8, 2);
        x.cable(0, 1, 8, 4);
        for (int sold = 1; sold <= 8; sold++) {
            due.is("one more", x.sell(0, 2, 4, 1, 0), sold);
            due.is("the seller has one less", x.owned(0, 2), 8 - sold);
        }
        due.is("eight of the other cable stay", x.owned(1, 4), 8);
        due.is("some back", x.sell(0, 4, 2, 5, 0), 5);
        due.is("to a third one", x.sell(0, 4, 0, 3, 0), 3);
        due.is("and to it from the other one", x.sell(0, 2, 0, 5, 0), 8);
    }

    private static void ownsFewer(Due due) {
        due.sentence(4, "Throws `IllegalStateException` if the member owns fewer");
        for (int owned = 0; owned < 8; owned++) {
            Cablecourt x = new Cablecourt();
            x.cable(0, 1, 8, 1);
            if (owned > 0) {
                x.sell(0, 1, 0, owned, 0);
            }
            for (int strands = owned + 1; strands <= 8; strands++) {
                int more = strands;
                due.state(strands + " of " + owned, () -> x.sell(0, 0, 2, more, 100000));
            }
            due.is("they are there", x.owned(0, 0), owned);
            due.is("the other one has none", x.owned(0, 2), 0);
            due.is("nothing is paid", x.account(2), 0);
            if (owned > 0) {
                due.is("just as many", x.sell(0, 0, 2, owned, 100000), owned);
                due.state("then none is left", () -> x.sell(0, 0, 2, 1, 0));
            }
        }
        Cablecourt y = new Cablecourt();
        y.cable(0, 1, 1, 0);
        y.cable(0, 1, 1, 1);
        due.state("of this cable, not of all", () -> y.sell(1, 0, 1, 1, 0));
        due.is("the member, not the other one", y.sell(1, 1, 0, 1, 0), 1);
    }

    private static void argumentsRefused(Due due) {
        due.sentence(4, "Throws `IllegalArgumentException` if both members are the same, or strands or price is out of range");
        Cablecourt x = new Cablecourt();
        x.cable(0, 1, 8, 0);
        for (int m = 0; m <= 5; m++) {
            int member = m;
            due.argument("both members " + m, () -> x.sell(0, member, member, 1, 0));
        }
        for (int strands : Due.outside(1, 8)) {
            due.argument("strands " + strands, () -> x.sell(0, 0, 1, strands, 0));
            due.argument("strands " + strands + ", and none owned", () -> x.sell(0, 1, 0, strands, 0));
        }
        for (int price : Due.outside(0, 100000)) {
            due.argument("price " + price, () -> x.sell(0, 0, 1, 1, price));
            due.argument("price " + price + ", and none owned", () -> x.sell(0, 1, 0, 1, price));
        }
        due.is("nothing is sold", x.owned(0, 0), 8);
        due.is("nothing is paid", x.account(0), 0);
        due.is("nothing is got", x.sold(0, 1), 0);
    }

    private static void noSuchCableOrMember(Due due) {
        due.sentence(4, "Throws `IndexOutOfBoundsException` as told, of the cable or either member");
        Cablecourt x = new Cablecourt();
        due.index("no cable yet", () -> x.sell(0, 0, 1, 1, 0));
        x.cable(0, 1, 8, 5);
        x.cable(0, 1, 8, 5);
        for (int c : Due.outside(0, 1)) {
            due.index("cable " + c, () -> x.sell(c, 5, 0, 8, 100000));
        }
        for (int m : Due.outside(0, 5)) {
            due.index("member " + m, () -> x.sell(1, m, 5, 8, 100000));
            due.index("other " + m, () -> x.sell(1, 5, m, 8, 100000));
            due.index("both " + m, () -> x.sell(1, m, m, 8, 100000));
            due.index("strands too", () -> x.sell(1, 5, m, 9, 0));
            due.index("price too", () -> x.sell(1, 5, m, 1, -1));
            due.index("none owned too", () -> x.sell(1, 0, m, 1, 0));
        }
        due.index("cable 2 and the same members", () -> x.sell(2, 0, 0, 1, 0));
        due.is("the last cable", x.sell(1, 5, 0, 8, 100000), 8);
        due.is("the first one", x.sell(0, 5, 0, 1, 100000), 1);
    }

    private static void accountAtItsEnds(Due due) {
        due.sentence(17, "Throws `IndexOutOfBoundsException` if member is neither");
        Cablecourt x = new Cablecourt();
        for (int m : Due.outside(NONE, 5)) {
            due.index("account(" + m + ")", () -> x.account(m));
        }
        due.sentence(17, "`member`: a member, or NONE for the club");
        for (int m = 0; m <= 5; m++) {
            x.demand(m, 0, 1, 1);
        }
        x.pass(1);
        for (int m = 0; m <= 5; m++) {
            due.is("account(" + m + ")", x.account(m), 5);
        }
        due.is("account(NONE)", x.account(NONE), -30);
        due.sentence(0, "The constants: `NONE = -1`: There is none.");
        due.is("NONE", NONE, -1);
        due.is("account(-1)", x.account(-1), -30);
    }

    private static void accountOfAll(Due due) {
        due.sentence(17, "Returns the account of a member, or of the club: what came by sales and credits,");
        Cablecourt x = new Cablecourt();
        x.cable(0, 1, 3, 0);
        x.sell(0, 0, 1, 1, 1000);
        x.demand(1, 4, 5, 1);
        x.pass(1);
        due.is("a sale", x.account(0), 1000);
        due.is("a credit", x.account(1), -1000 + 5);
        due.is("the club paid it", x.account(NONE), -5);
        due.sentence(17, "less what was paid for sales, credits and ships;");
        x.cut(0, 0);
        x.pass(1);
        due.is("less its shares of a credit: 3 and 1 left", x.account(0), 1000 - 4);
        due.is("less the price and a share, and both credits", x.account(1), -1000 + 10 - 1);
        x.ship(0, 10, 0);
        x.send(0, 0);
        x.pass(1);
        due.is("less two parts of 20: 13 and 1 left", x.account(0), 1000 - 8 - 14);
        due.is("less one part of it", x.account(1), -1000 + 15 - 2 - 6);
        due.is("the club paid but once", x.account(NONE), -5);
        due.sentence(17, "loans do not count.");
        Cablecourt y = new Cablecourt();
        y.cable(0, 5, 8, 0);
        y.demand(1, 0, 5, 4);
        y.pass(24);
        due.is("the loan", y.owes(1, 0), 96000);
        for (int m = NONE; m <= 5; m++) {
            due.is("account(" + m + ")", y.account(m), 0);
        }
    }

    private static void soldAtItsEnds(Due due) {
        due.sentence(19, "Returns what a member got from another one by sales in all.");
        Cablecourt x = new Cablecourt();
        for (int m = 0; m <= 5; m++) {
            x.cable(0, 1, 8, m);
        }
        for (int m = 0; m <= 5; m++) {
            for (int o = 0; o <= 5; o++) {
                if (m != o) {
                    x.sell(m, m, o, 1, 10 * m + o);
                }
            }
        }
        for (int m = 0; m <= 5; m++) {
            for (int o = 0; o <= 5; o++) {
                due.is("sold(" + m + ", " + o + ")", x.sold(m, o), m == o ? 0 : 10 * m + o);
            }
        }
        x.sell(5, 5, 0, 1, 100);
        due.is("one sale more", x.sold(5, 0), 150);
        due.is("nothing is set off", x.sold(0, 5), 5);
        x.demand(0, 2, 3, 4);
        x.pass(1);
        due.is("credits are no sales", x.sold(0, 5), 5);
        due.sentence(19, "Throws `IndexOutOfBoundsException` as told, of either");
        for (int m : Due.outside(0, 5)) {
            due.index("sold(" + m + ", 5)", () -> x.sold(m, 5));
            due.index("sold(5, " + m + ")", () -> x.sold(5, m));
            due.index("sold(" + m + ", " + m + ")", () -> x.sold(m, m));
        }
    }

    private static void dearestSales(Due due) {
        due.sentence(19, "by sales in all.");
        Cablecourt x = new Cablecourt();
        x.cable(0, 1, 1, 0);
        for (int i = 1; i <= 250; i++) {
            x.sell(0, 0, 5, 1, 100000);
            x.sell(0, 5, 0, 1, 99999);
        }
        due.is("250 of the dearest", x.sold(0, 5), 25_000_000);
        due.is("and back", x.sold(5, 0), 24_999_750);
        due.is("what is left", x.account(0), 250);
        due.is("of the other one", x.account(5), -250);
    }
}
