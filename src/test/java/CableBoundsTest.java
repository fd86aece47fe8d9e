/** Boundary cases of landings, members and cables: the Terms, and the promises 1, 2, 11 and 12. */
public final class CableBoundsTest {
    private static final int NONE = Cablecourt.NONE;

    public static void main(String[] args) {
        Due due = new Due("CableBoundsTest");
        landings(due);
        noSuchLanding(due);
        members(due);
        noSuchMember(due);
        aNewObject(due);
        numbers(due);
        lengths(due);
        strandsAtFirst(due);
        whole(due);
        layingRefused(due);
        ownedAtItsEnds(due);
        isWholeAtItsEnds(due);
        due.end();
    }

    private static void landings(Due due) {
        due.sentence(0, "There are the landings 0 to 5; the landing p lies at 200 * p on a line.");
        for (int p = 0; p <= 5; p++) {
            int q = (p + 1) % 6;
            Cablecourt x = new Cablecourt();
            due.is("ship at landing " + p, x.ship(p, 10, 0), 0);
            due.is("its place", x.place(0), 200 * p);
            due.is("cable from landing " + p, x.cable(p, q, 1, 0), 0);
            due.is("cable to landing " + p, x.cable(q, p, 1, 0), 1);
            due.is("demand from landing " + p, x.demand(0, p, q, 1), 0);
            due.is("demand to landing " + p, x.demand(0, q, p, 1), 1);
        }
    }

    private static void noSuchLanding(Due due) {
        due.sentence(0, "IndexOutOfBoundsException: there is no such landing,");
        for (int p : Due.outside(0, 5)) {
            Cablecourt x = new Cablecourt();
            due.index("cable from " + p, () -> x.cable(p, 1, 1, 0));
            due.index("cable to " + p, () -> x.cable(1, p, 1, 0));
            due.index("demand from " + p, () -> x.demand(0, p, 1, 1));
            due.index("demand to " + p, () -> x.demand(0, 1, p, 1));
            due.index("ship at " + p, () -> x.ship(p, 10, 0));
            due.index("no cable was laid", () -> x.isWhole(0));
            due.index("no demand was told", () -> x.way(0));
            due.index("no ship was added", () -> x.place(0));
        }
    }

    private static void members(Due due) {
        due.sentence(0, "There are the members 0 to 5.");
        for (int m = 0; m <= 5; m++) {
            int o = (m + 1) % 6;
            Cablecourt x = new Cablecourt();
            due.is("cable of member " + m, x.cable(0, 1, 2, m), 0);
            due.is("demand of member " + m, x.demand(m, 0, 1, 1), 0);
            due.is("member " + m + " sells", x.sell(0, m, o, 1, 7), 1);
            due.is("member " + m + " buys", x.sell(0, o, m, 1, 9), 2);
            due.is("owned by " + m, x.owned(0, m), 2);
            due.is("account of " + m, x.account(m), -2);
            due.is("sold by " + m, x.sold(m, o), 7);
            due.is("sold to " + m, x.sold(o, m), 9);
            due.is("owes of " + m, x.owes(m, o), 0);
            due.is("owes to " + m, x.owes(o, m), 0);
            due.is("owesAnew of " + m, x.owesAnew(m, o), 0);
            due.is("owesAnew to " + m, x.owesAnew(o, m), 0);
        }
    }

    private static void noSuchMember(Due due) {
        due.sentence(0, "member, cable, demand, cut or ship.");
        for (int m : Due.outside(0, 5)) {
            Cablecourt x = new Cablecourt();
            x.cable(0, 1, 2, 0);
            due.index("cable of " + m, () -> x.cable(0, 1, 1, m));
            due.index("demand of " + m, () -> x.demand(m, 0, 1, 1));
            due.index(m + " sells", () -> x.sell(0, m, 1, 1, 0));
            due.index(m + " buys", () -> x.sell(0, 0, m, 1, 0));
            due.index("owned by " + m, () -> x.owned(0, m));
            due.index("owes of " + m, () -> x.owes(m, 1));
            due.index("owes to " + m, () -> x.owes(1, m));
            due.index("owesAnew of " + m, () -> x.owesAnew(m, 1));
            due.index("owesAnew to " + m, () -> x.owesAnew(1, m));
            due.index("sold by " + m, () -> x.sold(m, 1));
            due.index("sold to " + m, () -> x.sold(1, m));
            due.index("no demand was told", () -> x.way(0));
            due.index("no second cable was laid", () -> x.isWhole(1));
            due.is("nothing was sold", x.owned(0, 0), 2);
        }
    }

    private static void aNewObject(Due due) {
        due.sentence(1, "Begins in the hour 0, without cables, demands and ships.");
        Cablecourt x = new Cablecourt();
        due.index("no cable: isWhole(0)", () -> x.isWhole(0));
        due.index("no cable: owned(0, 0)", () -> x.owned(0, 0));
        due.index("no cable: sell", () -> x.sell(0, 0, 1, 1, 0));
        due.index("no cable: cut", () -> x.cut(0, 0));
        due.index("no demand: way(0)", () -> x.way(0));
        due.index("no demand: lent(0)", () -> x.lent(0));
        due.index("no ship: place(0)", () -> x.place(0));
        due.index("no ship: send(0, NONE)", () -> x.send(0, NONE));
        due.index("no ship: fill(0, 0)", () -> x.fill(0, 0));
        due.index("no cut: worked(0)", () -> x.worked(0));
        due.is("spent", x.spent(), 0);
        due.is("seal", x.seal(), 0);
        for (int m = NONE; m <= 5; m++) {
            due.is("account(" + m + ")", x.account(m), 0);
        }
        due.is("the hour 0 goes by", x.pass(1), 1);
        due.is("and costs nothing", x.account(NONE), 0);
        due.sentence(0, "Hours are counted from 0.");
        due.is("24 hours of a new object", new Cablecourt().pass(24), 24);
        due.is("no storm of its own in the hour 0", worksAtOnce(), 1);
    }

    private static int worksAtOnce() {
        Cablecourt x = new Cablecourt();
        x.cable(0, 1, 1, 0);
        x.cut(0, 0);
        x.ship(0, 10, 1);
        x.send(0, 0);
        x.pass(1);
        return x.worked(0);
    }

    private static void numbers(Due due) {
        due.sentence(0, "Cables are numbered from 0, at most 10:");
        Cablecourt x = new Cablecourt();
        for (int c = 0; c < 10; c++) {
            int number = c;
            due.index("before the cable " + c, () -> x.isWhole(number));
            due.is("cable " + c, x.cable(c % 6, (c + 1) % 6, 1 + c % 8, c % 6), c);
            due.is("owned(" + c + ", its member)", x.owned(c, c % 6), 1 + c % 8);
        }
        due.sentence(2, "Throws `IllegalStateException` if there are 10");
        for (int p = 0; p <= 5; p++) {
            int q = p;
            due.state("the eleventh from " + p, () -> x.cable(q, (q + 1) % 6, 1, q));
        }
        due.index("there is no cable 10", () -> x.isWhole(10));
        due.is("the first is as it was", x.owned(0, 0), 1);
        due.is("the last is as it was", x.owned(9, 3), 2);
        x.cut(9, 0);
        due.state("a cut one is there all the same", () -> x.cable(0, 1, 1, 0));
        due.sentence(2, "Returns its number.");
        Cablecourt y = new Cablecourt();
        due.is("the first", y.cable(5, 0, 8, 5), 0);
        due.argument("a refused one has none", () -> y.cable(5, 5, 8, 5));
        due.is("the second, quite the same", y.cable(5, 0, 8, 5), 1);
    }

    private static void lengths(Due due) {
        due.sentence(0, "a cable is between two landings, has a length, which is the distance of their places,");
        for (int a = 0; a <= 5; a++) {
            for (int b = 0; b <= 5; b++) {
                if (a != b) {
                    lengthOf(due, a, b);
                }
            }
        }
    }

    private static void lengthOf(Due due, int a, int b) {
        int length = a < b ? 200 * (b - a) : 200 * (a - b);
        String call = "from " + a + " to " + b + ": ";
        Cablecourt x = new Cablecourt();
        x.cable(a, b, 2, 1);
        x.demand(0, a, b, 1);
        x.demand(2, b, a, 1);
        x.pass(1);
        due.is(call + "loan there", x.owes(0, 1), length);
        due.is(call + "loan back", x.owes(2, 1), length);
        due.argument(call + "a place beyond it", () -> x.cut(0, length + 1));
        due.is(call + "its last place", x.cut(0, length), 0);
        for (int p = 0; p <= 5; p++) {
            if (p != a && p != b) {
                Cablecourt y = new Cablecourt();
                y.cable(a, b, 1, 1);
                y.demand(1, a, p, 1);
                y.pass(1);
                due.is(call + "it does not go to " + p, y.way(0), NONE);
            }
        }
    }

    private static void strandsAtFirst(Due due) {
        due.sentence(0, "and 1 to 8 strands, all owned by one member at first.");
        for (int strands = 1; strands <= 8; strands++) {
            Cablecourt x = new Cablecourt();
            for (int m = 0; m <= 5; m++) {
                due.is("cable of " + strands, x.cable(2, 4, strands, m), m);
                for (int o = 0; o <= 5; o++) {
                    due.is("owned(" + m + ", " + o + ")", x.owned(m, o), o == m ? strands : 0);
                }
            }
        }
        due.sentence(2, "`strands`: 1 to 8");
        Cablecourt x = new Cablecourt();
        due.is("1", x.cable(0, 1, 1, 0), 0);
        due.is("8", x.cable(0, 1, 8, 0), 1);
        due.argument("0", () -> x.cable(0, 1, 0, 0));
        due.argument("9", () -> x.cable(0, 1, 9, 0));
        due.sentence(2, "Lays a cable.");
        due.is("one more", x.cable(0, 1, 3, 4), 2);
        due.is("with its strands", x.owned(2, 4), 3);
    }

    private static void whole(Due due) {
        due.sentence(0, "A cable is whole, unless there is a cut of it that is not mended.");
        Cablecourt x = new Cablecourt();
        x.cable(0, 1, 1, 0);
        x.cable(0, 1, 1, 0);
        due.is("at first", x.isWhole(0), true);
        x.cut(0, 0);
        due.is("when cut", x.isWhole(0), false);
        due.is("another one between the same landings", x.isWhole(1), true);
        x.ship(0, 10, 1);
        x.send(0, 0);
        x.pass(4);
        due.is("after four hours of work", x.isWhole(0), false);
        x.pass(1);
        due.is("after the fifth one", x.isWhole(0), true);
        x.cut(0, 200);
        due.is("cut again, the first cut mended", x.isWhole(0), false);
        x.cut(1, 100);
        due.is("the other one cut", x.isWhole(1), false);
    }

    private static void layingRefused(Due due) {
        Cablecourt x = new Cablecourt();
        due.sentence(2, "Throws `IndexOutOfBoundsException` as told, of either landing or the member");
        due.index("the first landing, all else right", () -> x.cable(6, 5, 8, 5));
        due.index("the other landing, all else right", () -> x.cable(5, 6, 8, 5));
        due.index("the member, all else right", () -> x.cable(5, 0, 8, 6));
        due.index("both landings the same, and none", () -> x.cable(-1, -1, 1, 0));
        due.index("landings the same, and no member", () -> x.cable(0, 0, 1, -1));
        due.index("no strands, and no member", () -> x.cable(0, 1, 0, -1));
        due.sentence(2, "Throws `IllegalArgumentException` if both landings are the same, or strands is out of range");
        for (int p = 0; p <= 5; p++) {
            int q = p;
            due.argument("both landings " + p, () -> x.cable(q, q, 1, 0));
        }
        for (int strands : Due.outside(1, 8)) {
            due.argument("strands " + strands, () -> x.cable(0, 5, strands, 0));
        }
        due.index("nothing was laid", () -> x.isWhole(0));
    }

    private static void ownedAtItsEnds(Due due) {
        Cablecourt x = new Cablecourt();
        due.sentence(11, "Throws `IndexOutOfBoundsException` as told, of the cable or the member");
        due.index("no cable yet", () -> x.owned(0, 0));
        x.cable(1, 0, 8, 0);
        x.cable(4, 5, 1, 5);
        for (int c : Due.outside(0, 1)) {
            due.index("owned(" + c + ", 0)", () -> x.owned(c, 0));
        }
        for (int m : Due.outside(0, 5)) {
            due.index("owned(1, " + m + ")", () -> x.owned(1, m));
        }
        due.sentence(11, "Returns how many strands of a cable a member owns.");
        due.is("all of the most", x.owned(0, 0), 8);
        due.is("all of one", x.owned(1, 5), 1);
        due.is("none of the last", x.owned(1, 0), 0);
        x.sell(1, 5, 0, 1, 0);
        due.is("all are sold", x.owned(1, 5), 0);
        due.is("the buyer has it", x.owned(1, 0), 1);
        for (int m = 1; m <= 5; m++) {
            x.sell(0, 0, m, 1, 0);
        }
        int sum = 0;
        for (int m = 0; m <= 5; m++) {
            due.is("owned(0, " + m + ") among six owners", x.owned(0, m), m == 0 ? 3 : 1);
            sum += x.owned(0, m);
        }
        due.is("eight in all", sum, 8);
    }

    private static void isWholeAtItsEnds(Due due) {
        Cablecourt x = new Cablecourt();
        due.sentence(12, "Throws `IndexOutOfBoundsException` as told");
        due.index("no cable yet", () -> x.isWhole(0));
        for (int c = 0; c < 10; c++) {
            x.cable(0, 1, 1, 0);
        }
        for (int c : Due.outside(0, 9)) {
            due.index("isWhole(" + c + ")", () -> x.isWhole(c));
        }
        due.sentence(12, "Returns whether a cable is whole.");
        for (int c = 0; c < 10; c++) {
            due.is("isWhole(" + c + ")", x.isWhole(c), true);
            x.cut(c, 0);
            due.is("isWhole(" + c + ") when cut", x.isWhole(c), false);
        }
    }
}
