/** The last calls that the document promises: up to the 512th an object answers as it did at first. */
public final class CallsTest {
    private static final int LAST = 512;

    public static void main(String[] args) {
        Due due = new Due("CallsTest");
        due.sentence(0, "An object is used for at most 512 calls after it has been made;");
        mostSales(due);
        mostQuestions(due);
        mostRefusals(due);
        mostHours(due);
        mostOfAll(due);
        due.sentence(0, "what later calls answer is free.");
        later(due);
        due.end();
    }

    /** A club of 511 calls, most of them sales; the strand is sold to and fro, and lent in some hours. */
    private static Cablecourt mostSales(int[] owed) {
        Cablecourt x = new Cablecourt();
        x.cable(0, 1, 1, 0);
        x.demand(5, 0, 1, 1);
        int owner = 0;
        for (int call = 3; call < LAST; call++) {
            if (call % 50 == 0 || call == LAST - 1) {
                x.pass(1);
                owed[owner] += 200;
            } else {
                x.sell(0, owner, 1 - owner, 1, 100000);
                owner = 1 - owner;
            }
        }
        return x;
    }

    private static void mostSales(Due due) {
        int[] owed = new int[2];
        due.is("owesAnew(5, 0)", mostSales(owed).owesAnew(5, 0), owed[0]);
        due.is("owesAnew(5, 1)", mostSales(new int[2]).owesAnew(5, 1), owed[1]);
        due.is("owes(5, 0)", mostSales(new int[2]).owes(5, 0), owed[0]);
        due.is("both are lent from", owed[0] > 0 && owed[1] > 0, true);
        int seal = mostSales(new int[2]).seal();
        due.is("the same calls, the same seal", mostSales(new int[2]).seal(), seal);
        due.is("509 - 11 sales, every second one", mostSales(new int[2]).sold(0, 1), 249 * 100000);
        due.is("and back", mostSales(new int[2]).sold(1, 0), 249 * 100000);
        due.is("what comes and goes", mostSales(new int[2]).account(0), 0);
        due.is("owned", mostSales(new int[2]).owned(0, 0), 1);
        due.is("sell", mostSales(new int[2]).sell(0, 0, 3, 1, 1), 1);
    }

    private static void mostQuestions(Due due) {
        Cablecourt x = new Cablecourt();
        x.cable(0, 1, 1, 1);
        x.demand(0, 0, 1, 1);
        x.pass(24);
        for (int call = 4; call <= LAST; call++) {
            due.is("call " + call, call % 2 == 0 ? x.owesAnew(0, 1) : x.way(0), call % 2 == 0 ? 4800 : 1);
        }
    }

    private static void mostRefusals(Due due) {
        Cablecourt x = new Cablecourt();
        for (int call = 1; call < LAST; call++) {
            due.argument("call " + call, () -> x.cable(0, 0, 1, 0));
        }
        due.is("the first cable by the last call", x.cable(0, 1, 1, 0), 0);
    }

    private static void mostHours(Due due) {
        Cablecourt x = new Cablecourt();
        x.demand(0, 0, 1, 1);
        for (int hour = 1; hour <= 500; hour++) {
            due.is("pass(1)", x.pass(1), hour);
        }
        due.state("the hour 501", () -> x.pass(1));
        due.is("a credit each", x.account(0), 2500);
    }

    private static void mostOfAll(Due due) {
        Cablecourt x = new Cablecourt();
        for (int i = 0; i < 10; i++) {
            x.cable(0, 1, 8, i % 6);
            x.demand(i % 6, 0, 1, 4);
        }
        for (int s = 0; s < 3; s++) {
            x.ship(0, 10, 10);
        }
        for (int k = 0; k < 16; k++) {
            x.cut(k % 10, 0);
            x.send(k % 3, k);
            x.pass(5);
        }
        for (int hour = 81; hour <= 500; hour++) {
            x.pass(1);
        }
        due.state("the hour 501", () -> x.pass(1));
        due.is("all are whole again", x.isWhole(9), true);
        due.is("the last one is led over the first one of its own", x.way(9), 1 << 3);
        due.is("sixteen mended", x.worked(15), 5);
        due.is("five hours each", x.spent(), 16 * 5 * 20);
    }

    /** No answer is promised, but none may be the machine's own exception: that is the rule 7 of the language. */
    private static void later(Due due) {
        Cablecourt x = mostSales(new int[2]);
        int owner = 0;
        for (int i = 0; i < 600; i++) {
            int seller = owner;
            due.refuses("sell", null, () -> x.sell(0, seller, 1 - seller, 1, 100000));
            owner = 1 - owner;
        }
        due.refuses("pass", null, () -> x.pass(24));
        due.refuses("owesAnew", null, () -> x.owesAnew(5, 0));
        due.refuses("seal", null, () -> x.seal());
    }
}
