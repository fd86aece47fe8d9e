/** Boundary cases of credits and of shares: what the Terms tell of both. */
public final class CreditBoundsTest {
    private static final int NONE = Cablecourt.NONE;

    public static void main(String[] args) {
        Due due = new Due("CreditBoundsTest");
        fiveForEachStrand(due);
        eachHour(due);
        theEarliestHour(due);
        cutAgainInALaterHour(due);
        oneHour(due);
        ofThoseThatAreCut(due);
        eachByItself(due);
        theClub(due);
        sharedByStrands(due);
        lowestOwner(due);
        sixOwners(due);
        ownersOfThisHour(due);
        due.end();
    }

    private static void fiveForEachStrand(Due due) {
        due.sentence(0, "For each hour in which a demand is not led, its member gets a credit of 5 for each strand;");
        for (int strands = 1; strands <= 4; strands++) {
            for (int member = 0; member <= 5; member++) {
                Cablecourt x = new Cablecourt();
                if (strands > 1) {
                    x.cable(0, 1, strands - 1, member);
                }
                x.demand(member, 0, 1, strands);
                x.pass(1);
                due.is("one strand short of " + strands + ": not led", x.way(0), NONE);
                due.is("credit of " + member + " for " + strands, x.account(member), 5 * strands);
            }
        }
        Cablecourt y = new Cablecourt();
        for (int d = 0; d < 10; d++) {
            y.demand(0, 0, 1, 4);
        }
        y.pass(1);
        due.is("ten of four", y.account(0), 200);
    }

    private static void eachHour(Due due) {
        Cablecourt x = new Cablecourt();
        x.cable(0, 1, 1, 0);
        x.demand(0, 0, 1, 1);
        x.demand(0, 0, 1, 2);
        x.pass(24);
        due.is("24 hours for the one that is not led", x.account(0), 240);
        due.is("no loans by that", x.owes(0, 0), 0);
        x.cable(0, 1, 2, 5);
        x.pass(24);
        due.is("both are led, over its own and over lent ones", x.account(0), 240);
        due.is("lent in 24 hours", x.owes(0, 5), 24 * 400);
    }

    private static void theEarliestHour(Due due) {
        due.sentence(0, "it is paid by the owners of the cable that was cut in the earliest hour,");
        for (int apart = 1; apart <= 24; apart += 23) {
            Cablecourt x = new Cablecourt();
            for (int c = 0; c < 3; c++) {
                x.cable(4, 5, 1, c);
            }
            x.pass(5);
            x.demand(5, 0, 1, 1);
            x.cut(2, 200);
            x.pass(apart);
            x.cut(0, 0);
            x.cut(1, 100);
            x.pass(1);
            due.is("the one " + apart + " earlier", x.account(2), -5 * (apart + 1));
            due.is("not the lowest number", x.account(0), 0);
            due.is("nor the next one", x.account(1), 0);
        }
        Cablecourt y = new Cablecourt();
        y.cable(4, 5, 1, 0);
        y.demand(5, 0, 1, 1);
        y.pass(24);
        y.cut(0, 0);
        y.pass(1);
        due.is("from the hour in which it was cut", y.account(0), -5);
        due.is("the club paid before", y.account(NONE), -120);
    }

    private static void cutAgainInALaterHour(Due due) {
        Cablecourt x = new Cablecourt();
        x.cable(4, 5, 1, 0);
        x.cable(4, 5, 1, 1);
        x.demand(5, 0, 1, 1);
        x.ship(4, 10, 2);
        x.cut(0, 0);
        x.send(0, 0);
        x.pass(4);
        x.cut(1, 0);
        x.pass(1);
        due.is("the earlier one pays in the hour that mends it", x.account(0), -25 - 100);
        due.is("the later one does not", x.account(1), 0);
        x.pass(1);
        due.is("now the later one is the only one", x.account(1), -5);
        x.cut(0, 0);
        x.pass(1);
        due.is("its new cut is of a later hour", x.account(1), -10);
        due.is("so the first one pays no more", x.account(0), -125);
    }

    private static void oneHour(Due due) {
        due.sentence(0, "of several in one hour the cable with the lowest number,");
        for (int hour = 0; hour <= 1; hour++) {
            Cablecourt x = new Cablecourt();
            for (int c = 0; c < 10; c++) {
                x.cable(4, 5, 1, c % 5);
            }
            x.pass(1 + hour);
            x.demand(5, 0, 1, 1);
            for (int c = 9; c > 1; c--) {
                x.cut(c, 0);
            }
            x.pass(1);
            due.is("2, told last", x.account(2), -5);
            x.cut(0, 0);
            x.cut(1, 0);
            x.pass(1);
            due.is("2 still, 0 and 1 are later", x.account(2), -10);
            due.is("not 0", x.account(0), 0);
            due.is("nor 1", x.account(1), 0);
        }
    }

    private static void ofThoseThatAreCut(Due due) {
        due.sentence(0, "of those that are cut,");
        Cablecourt x = new Cablecourt();
        for (int c = 0; c < 3; c++) {
            x.cable(4, 5, 1, c);
        }
        x.demand(5, 0, 1, 1);
        x.ship(4, 10, 1);
        x.ship(4, 10, 1);
        x.ship(4, 10, 1);
        for (int c = 0; c < 3; c++) {
            x.cut(c, 0);
        }
        x.send(0, 0);
        x.pass(5);
        due.is("the first one, five hours and the ship", x.account(0), -125);
        x.send(1, 1);
        x.pass(5);
        due.is("the first one is mended", x.account(0), -125);
        due.is("the second one", x.account(1), -125);
        x.send(2, 2);
        x.pass(5);
        due.is("the third one", x.account(2), -125);
        x.pass(1);
        due.is("none is cut: the club", x.account(NONE), -5);
        due.is("the first one no more", x.account(0), -125);
        due.is("the third one no more", x.account(2), -125);
    }

    private static void eachByItself(Due due) {
        due.sentence(0, "each credit by itself;");
        Cablecourt x = new Cablecourt();
        x.cable(4, 5, 2, 3);
        x.sell(0, 3, 4, 1, 0);
        for (int d = 0; d < 10; d++) {
            x.demand(5, 0, 1, 1);
        }
        x.cut(0, 0);
        x.pass(1);
        due.is("ten times 2 and 1 left", x.account(3), -30);
        due.is("ten times 2", x.account(4), -20);
        due.is("ten credits", x.account(5), 50);
        Cablecourt y = new Cablecourt();
        y.cable(4, 5, 8, 3);
        y.sell(0, 3, 4, 7, 0);
        y.demand(5, 0, 1, 2);
        y.demand(5, 0, 1, 1);
        y.cut(0, 0);
        y.pass(3);
        due.is("10: 1 and 1 left; 5: 0 and 1 left", y.account(3), -9);
        due.is("10: 8; 5: 4", y.account(4), -36);
    }

    private static void theClub(Due due) {
        due.sentence(0, "by the club, if none is cut.");
        Cablecourt x = new Cablecourt();
        x.cable(4, 5, 1, 0);
        x.demand(3, 0, 1, 4);
        x.pass(1);
        due.is("never cut", x.account(NONE), -20);
        x.cut(0, 0);
        x.ship(4, 10, 1);
        x.send(0, 0);
        x.pass(5);
        due.is("cut", x.account(NONE), -20);
        x.pass(1);
        due.is("mended", x.account(NONE), -40);
        due.is("the owner paid in between", x.account(0), -200);
        due.is("seven credits", x.account(3), 140);
    }

    private static int share(int sum, int strands, int all) {
        return sum * strands / all;
    }

    private static void sharedByStrands(Due due) {
        due.sentence(0, "What owners of a cable pay is shared by strands: each pays the sum times its strands divided by all, rounded down,");
        for (int all = 2; all <= 8; all++) {
            for (int part = 1; part < all; part++) {
                for (int strands = 1; strands <= 4; strands++) {
                    Cablecourt x = new Cablecourt();
                    x.cable(4, 5, all, 2);
                    x.sell(0, 2, 4, part, 0);
                    x.demand(0, 0, 1, strands);
                    x.cut(0, 0);
                    x.pass(1);
                    String call = 5 * strands + " by " + part + " of " + all;
                    due.is(call, x.account(4), -share(5 * strands, part, all));
                    due.is(call + ", the lowest one", x.account(2), -5 * strands + share(5 * strands, part, all));
                }
            }
        }
    }

    private static void lowestOwner(Due due) {
        due.sentence(0, "the lowest owner what is left besides.");
        for (int first = 0; first <= 3; first++) {
            for (int second = first + 1; second <= 4; second++) {
                Cablecourt x = new Cablecourt();
                x.cable(4, 5, 3, 5);
                x.sell(0, 5, second, 1, 0);
                x.sell(0, 5, first, 1, 0);
                x.ship(4, 10, 0);
                x.cut(0, 0);
                x.send(0, 0);
                x.pass(1);
                for (int m = 0; m <= 5; m++) {
                    boolean owner = m == first || m == second || m == 5;
                    due.is("owners " + first + ", " + second + ", 5: " + m, x.account(m), m == first ? -8 : owner ? -6 : 0);
                }
            }
        }
    }

    private static void sixOwners(Due due) {
        Cablecourt x = new Cablecourt();
        x.cable(4, 5, 8, 5);
        for (int m = 4; m >= 0; m--) {
            x.sell(0, 5, m, 1, 0);
        }
        x.demand(0, 0, 1, 1);
        x.cut(0, 0);
        x.pass(1);
        due.is("5 / 8 is 0 each, 4 left, 5 for itself", x.account(0), 1);
        due.is("0", x.account(4), 0);
        due.is("15 / 8", x.account(5), -1);
        x.ship(4, 10, 0);
        x.send(0, 0);
        x.pass(1);
        due.is("20 / 8 is 2, 3 left", x.account(0), 1 + 1 - 5);
        due.is("2", x.account(4), -2);
        due.is("60 / 8", x.account(5), -2 - 7);
        Cablecourt y = new Cablecourt();
        y.cable(4, 5, 8, 0);
        y.demand(0, 0, 1, 4);
        y.cut(0, 0);
        y.pass(1);
        due.is("the only owner pays itself", y.account(0), 0);
    }

    private static void ownersOfThisHour(Due due) {
        Cablecourt x = new Cablecourt();
        x.cable(4, 5, 1, 0);
        x.demand(5, 0, 1, 1);
        x.cut(0, 0);
        x.pass(1);
        x.sell(0, 0, 1, 1, 0);
        x.pass(1);
        due.is("the owner that was", x.account(0), -5);
        due.is("the owner that is", x.account(1), -5);
    }
}
