/** Boundary cases of loans and of the seal: the Terms, and the promises 15, 16 and 22. */
public final class LoanBoundsTest {
    public static void main(String[] args) {
        Due due = new Due("LoanBoundsTest");
        eachStrand(due);
        nothingIsSetOff(due);
        owesAtItsEnds(due);
        anewAtItsEnds(due);
        anewWhenLaid(due);
        anewWhenTold(due);
        anewWhenSold(due);
        anewWhenCut(due);
        anewWhenMended(due);
        manyInOneHour(due);
        theMost(due);
        sealOfNothing(due);
        sealOfOnePair(due);
        sealOfAll(due);
        due.end();
    }

    private static void both(Due due, String call, Cablecourt x, int member, int other, int want) {
        due.is(call + ": owes", x.owes(member, other), want);
        due.is(call + ": owesAnew", x.owesAnew(member, other), want);
    }

    private static void eachStrand(Due due) {
        due.sentence(0, "For each strand of another member that a demand takes in an hour,");
        for (int strands = 1; strands <= 4; strands++) {
            for (int own = 0; own <= strands; own++) {
                Cablecourt x = new Cablecourt();
                x.cable(0, 1, 4, 1);
                if (own > 0) {
                    x.sell(0, 1, 0, own, 0);
                }
                x.demand(0, 0, 1, strands);
                x.pass(1);
                both(due, own + " own ones of " + strands, x, 0, 1, 200 * (strands - own));
                both(due, "itself", x, 0, 0, 0);
            }
        }
        due.sentence(0, "its member owes that member the length of the cable more,");
        for (int far = 1; far <= 5; far++) {
            Cablecourt x = new Cablecourt();
            x.cable(far, 0, 1, 4);
            x.demand(2, 0, far, 1);
            for (int hour = 1; hour <= 3; hour++) {
                x.pass(1);
                both(due, "of the length " + 200 * far + " in hours " + hour, x, 2, 4, 200 * far * hour);
            }
        }
        Cablecourt y = new Cablecourt();
        y.cable(0, 5, 1, 3);
        y.cable(5, 4, 1, 4);
        y.demand(0, 0, 4, 1);
        y.pass(1);
        both(due, "of its way each cable's own length", y, 0, 3, 1000);
        both(due, "and its owner", y, 0, 4, 200);
    }

    private static void nothingIsSetOff(Due due) {
        due.sentence(0, "and nothing is set off.");
        Cablecourt x = new Cablecourt();
        x.cable(0, 1, 1, 0);
        x.cable(2, 3, 1, 1);
        x.demand(1, 0, 1, 1);
        x.demand(0, 2, 3, 1);
        for (int hour = 1; hour <= 3; hour++) {
            x.pass(1);
            both(due, "there", x, 1, 0, 200 * hour);
            both(due, "and back", x, 0, 1, 200 * hour);
        }
        x.sell(0, 0, 1, 1, 100);
        x.pass(1);
        both(due, "not by a sale", x, 1, 0, 600);
        both(due, "the other one grows", x, 0, 1, 800);
    }

    private static void owesAtItsEnds(Due due) {
        due.sentence(15, "Returns what a member owes another one by loans, as it is kept.");
        for (int m = 0; m <= 5; m++) {
            for (int o = 0; o <= 5; o++) {
                Cablecourt x = new Cablecourt();
                x.cable(0, 1, 1, o);
                x.demand(m, 0, 1, 1);
                due.is("before an hour", x.owes(m, o), 0);
                x.pass(2);
                due.is("owes(" + m + ", " + o + ")", x.owes(m, o), m == o ? 0 : 400);
                due.is("owes(" + o + ", " + m + ")", x.owes(o, m), 0);
            }
        }
        due.sentence(15, "Throws `IndexOutOfBoundsException` as told, of either");
        Cablecourt x = new Cablecourt();
        for (int m : Due.outside(0, 5)) {
            due.index("owes(" + m + ", 5)", () -> x.owes(m, 5));
            due.index("owes(5, " + m + ")", () -> x.owes(5, m));
            due.index("owes(" + m + ", " + m + ")", () -> x.owes(m, m));
        }
    }

    private static void anewAtItsEnds(Due due) {
        due.sentence(16, "Throws `IndexOutOfBoundsException` as told, of either");
        Cablecourt x = new Cablecourt();
        for (int m : Due.outside(0, 5)) {
            due.index("owesAnew(" + m + ", 5)", () -> x.owesAnew(m, 5));
            due.index("owesAnew(5, " + m + ")", () -> x.owesAnew(5, m));
            due.index("owesAnew(" + m + ", " + m + ")", () -> x.owesAnew(m, m));
        }
        due.sentence(16, "Returns the same,");
        for (int m = 0; m <= 5; m++) {
            for (int o = 0; o <= 5; o++) {
                Cablecourt y = new Cablecourt();
                y.cable(0, 1, 1, o);
                y.demand(m, 0, 1, 1);
                due.is("before an hour", y.owesAnew(m, o), 0);
                y.pass(2);
                due.is("owesAnew(" + m + ", " + o + ")", y.owesAnew(m, o), m == o ? 0 : 400);
                due.is("asked once more", y.owesAnew(m, o), m == o ? 0 : 400);
                due.is("owesAnew(" + o + ", " + m + ")", y.owesAnew(o, m), 0);
            }
        }
    }

    private static void anewWhenLaid(Due due) {
        due.sentence(16, "found hour by hour from what was laid, told, sold, cut and mended.");
        Cablecourt x = new Cablecourt();
        x.demand(0, 0, 1, 1);
        x.pass(3);
        both(due, "no cable in three hours", x, 0, 1, 0);
        x.cable(0, 1, 1, 1);
        both(due, "laid, no hour since", x, 0, 1, 0);
        x.pass(1);
        both(due, "one hour", x, 0, 1, 200);
        x.cable(0, 1, 1, 0);
        both(due, "another one laid", x, 0, 1, 200);
        x.pass(1);
        both(due, "over its own", x, 0, 1, 200);
    }

    private static void anewWhenTold(Due due) {
        Cablecourt x = new Cablecourt();
        x.cable(0, 1, 3, 1);
        x.pass(2);
        x.demand(0, 0, 1, 1);
        both(due, "told, no hour since", x, 0, 1, 0);
        x.pass(1);
        both(due, "one hour", x, 0, 1, 200);
        x.demand(1, 0, 1, 3);
        x.pass(1);
        both(due, "the owner's comes first", x, 0, 1, 200);
        Due.passHours(x, 495);
        x.cable(0, 1, 1, 2);
        x.demand(3, 0, 1, 1);
        x.pass(1);
        both(due, "in the last hour, by the number of the demand", x, 0, 2, 200);
        both(due, "nothing left", x, 3, 2, 0);
    }

    private static void anewWhenSold(Due due) {
        Cablecourt x = new Cablecourt();
        x.cable(0, 1, 2, 1);
        x.demand(0, 0, 1, 2);
        x.pass(1);
        x.sell(0, 1, 2, 1, 9);
        both(due, "sold, no hour since", x, 0, 1, 400);
        both(due, "to the buyer nothing yet", x, 0, 2, 0);
        x.pass(1);
        both(due, "one strand each", x, 0, 1, 600);
        both(due, "to the buyer too", x, 0, 2, 200);
        x.sell(0, 2, 3, 1, 9);
        x.sell(0, 3, 0, 1, 9);
        x.sell(0, 1, 4, 1, 9);
        x.pass(1);
        both(due, "sold twice in one hour", x, 0, 3, 0);
        both(due, "the last buyer", x, 0, 4, 200);
        both(due, "the first owner", x, 0, 1, 600);
    }

    private static void anewWhenCut(Due due) {
        Cablecourt x = new Cablecourt();
        x.cable(0, 1, 1, 1);
        x.cable(0, 1, 1, 2);
        x.demand(0, 0, 1, 1);
        x.cut(0, 0);
        x.pass(1);
        both(due, "cut in the hour 0", x, 0, 1, 0);
        both(due, "so the other one", x, 0, 2, 200);
        x.cut(1, 0);
        both(due, "cut, no hour since", x, 0, 2, 200);
        x.pass(1);
        both(due, "none is whole", x, 0, 2, 200);
        both(due, "none at all", x, 0, 1, 0);
    }

    private static void anewWhenMended(Due due) {
        Cablecourt x = new Cablecourt();
        x.cable(0, 1, 1, 1);
        x.demand(0, 0, 1, 1);
        x.ship(0, 10, 9);
        x.cut(0, 0);
        x.send(0, 0);
        x.pass(4);
        both(due, "four hours of work", x, 0, 1, 0);
        x.pass(1);
        both(due, "the fifth one", x, 0, 1, 0);
        x.cut(0, 0);
        x.send(0, 1);
        x.pass(5);
        both(due, "cut again before an hour", x, 0, 1, 0);
        x.pass(1);
        both(due, "one whole hour", x, 0, 1, 200);
        x.cut(0, 0);
        x.send(0, 2);
        x.pass(6);
        both(due, "mended in the hour before", x, 0, 1, 400);
        x.cut(0, 0);
        x.send(0, 3);
        x.pass(24);
        both(due, "19 hours more", x, 0, 1, 400 + 19 * 200);
    }

    private static void manyInOneHour(Due due) {
        Cablecourt x = new Cablecourt();
        x.pass(7);
        for (int c = 0; c < 10; c++) {
            x.cable(c % 5, c % 5 + 1, 8, c % 6);
            x.sell(c, c % 6, (c + 1) % 6, 5, 1);
            x.sell(c, (c + 1) % 6, (c + 2) % 6, 2, 1);
            x.demand(c % 6, c % 5, (c + 2) % 6, 1 + c % 4);
        }
        x.cut(2, 0);
        x.cut(7, 200);
        x.ship(2, 10, 1);
        x.send(0, 0);
        x.pass(1);
        same(due, x);
        x.pass(11);
        same(due, x);
    }

    private static void same(Due due, Cablecourt x) {
        int sum = 0;
        int seal = x.seal();
        for (int m = 0; m <= 5; m++) {
            for (int o = 0; o <= 5; o++) {
                due.is("owesAnew(" + m + ", " + o + ")", x.owesAnew(m, o), x.owes(m, o));
                sum += x.owes(m, o);
            }
        }
        due.is("something is owed", sum > 0, true);
        due.is("the questions change nothing", x.seal(), seal);
    }

    private static Cablecourt theLongestWays() {
        Cablecourt x = new Cablecourt();
        int[] landings = {2, 5, 0, 4, 1, 3};
        for (int c = 0; c < 10; c++) {
            x.cable(landings[c % 5], landings[c % 5 + 1], 8, 0);
        }
        for (int d = 0; d < 10; d++) {
            x.demand(5, 2, 3, 4);
        }
        return x;
    }

    private static void theMost(Due due) {
        Cablecourt x = theLongestWays();
        x.pass(1);
        both(due, "four demands of four over 3400", x, 5, 0, 54400);
        due.is("the fifth one is not led", x.way(4), -1);
        Due.passHours(x, 499);
        both(due, "500 hours of it", x, 5, 0, 27_200_000);
        due.is("six credits of 20 each hour", x.account(5), 60_000);
        due.is("by the club", x.account(-1), -60_000);
    }

    private static int turned(int seal) {
        return (seal << 3) ^ (seal >>> 29);
    }

    private static void sealOfNothing(Due due) {
        due.sentence(22, "Returns a seal of what all members owe: an int that is told with overflow, at first 0;");
        Cablecourt x = new Cablecourt();
        due.is("at first", x.seal(), 0);
        x.cable(0, 1, 1, 0);
        x.demand(0, 0, 1, 1);
        x.sell(0, 0, 1, 1, 100);
        x.sell(0, 1, 0, 1, 100);
        x.pass(5);
        due.is("nothing is owed", x.seal(), 0);
        Cablecourt y = theLongestWays();
        Due.passHours(y, 500);
        due.is("it is kept", y.owes(5, 0), 27_200_000);
        long owed = 27_200_000L * 31;
        int want = (int) owed;
        for (int i = 0; i < 4; i++) {
            want = turned(want);
        }
        due.is("with overflow", y.seal(), want);
    }

    private static void sealOfOnePair(Due due) {
        due.sentence(22, "each two unlike members, the one that owes first, by their numbers,");
        for (int m = 0; m <= 5; m++) {
            for (int o = 0; o <= 5; o++) {
                Cablecourt x = new Cablecourt();
                x.cable(0, 1, 1, o);
                x.demand(m, 0, 1, 1);
                x.pass(1);
                int want = 0;
                if (m != o) {
                    want = 200 * 31;
                    int pair = 5 * m + (o < m ? o : o - 1);
                    for (int i = pair; i < 29; i++) {
                        want = turned(want);
                    }
                }
                due.is("only " + m + " owes " + o, x.seal(), want);
            }
        }
    }

    private static void sealOfAll(Due due) {
        due.sentence(22, "make it itself shifted left by 3, xored with itself shifted right by 29 with zeros, and what is owed times 31 added.");
        Cablecourt x = new Cablecourt();
        for (int c = 0; c < 10; c++) {
            x.cable(c % 5, c % 5 + 1, 8, 0);
            for (int m = 1; m <= 5; m++) {
                x.sell(c, 0, m, 1, 0);
            }
            x.demand(c % 6, c % 5, c % 5 + 1, 4);
        }
        for (int round = 1; round <= 40; round++) {
            x.pass(1 + round % 24);
            int from = round % 6;
            int to = (round + 1 + round % 5) % 6;
            if (x.owned(round % 10, from) > 0) {
                x.sell(round % 10, from, to, 1, 0);
            }
            if (round % 10 == 0) {
                due.is("after " + round + " sales", x.seal(), sealOf(x));
            }
        }
        int pairs = 0;
        for (int m = 0; m <= 5; m++) {
            for (int o = 0; o <= 5; o++) {
                pairs += x.owes(m, o) > 0 ? 1 : 0;
            }
        }
        due.is("pairs that owe", pairs >= 20, true);
    }

    private static int sealOf(Cablecourt x) {
        int want = 0;
        for (int m = 0; m <= 5; m++) {
            for (int o = 0; o <= 5; o++) {
                if (m != o) {
                    want = turned(want) + x.owes(m, o) * 31;
                }
            }
        }
        return want;
    }
}
