/** Boundary cases of demands and how they are led: the Terms, and the promises 3, 13 and 14. */
public final class DemandBoundsTest {
    private static final int NONE = Cablecourt.NONE;

    public static void main(String[] args) {
        Due due = new Due("DemandBoundsTest");
        numbers(due);
        strands(due);
        tellingRefused(due);
        fromItsHour(due);
        anewEachHour(due);
        byTheirNumbers(due);
        aloneInTheFirstRound(due);
        aloneOnEveryCable(due);
        ledAtAll(due);
        wholeCables(due);
        longestWay(due);
        soManyAreFree(due);
        takenInThisHour(due);
        whoseStrands(due);
        fewestOfOthers(due);
        shortest(due);
        lowestNumbers(due);
        wayAtItsEnds(due);
        lentAtItsEnds(due);
        due.end();
    }

    private static void numbers(Due due) {
        due.sentence(0, "Demands are numbered from 0, at most 10:");
        Cablecourt x = new Cablecourt();
        for (int d = 0; d < 10; d++) {
            int number = d;
            due.index("before the demand " + d, () -> x.way(number));
            due.is("demand " + d, x.demand(d % 6, d % 6, (d + 1) % 6, 1 + d % 4), d);
            due.is("way(" + d + ")", x.way(d), NONE);
        }
        due.sentence(3, "Throws `IllegalStateException` if there are 10");
        due.state("the eleventh", () -> x.demand(0, 0, 1, 1));
        due.state("the eleventh of another member", () -> x.demand(5, 5, 0, 4));
        due.index("there is no demand 10", () -> x.way(10));
        x.pass(1);
        due.is("ten credits, no eleventh one", x.account(NONE), -5 * (1 + 2 + 3 + 4 + 1 + 2 + 3 + 4 + 1 + 2));
        due.state("an hour later too", () -> x.demand(0, 0, 1, 1));
        due.sentence(3, "Returns its number.");
        Cablecourt y = new Cablecourt();
        due.is("the first", y.demand(5, 5, 0, 4), 0);
        due.argument("a refused one has none", () -> y.demand(5, 5, 5, 4));
        due.is("the second, quite the same", y.demand(5, 5, 0, 4), 1);
    }

    private static void strands(Due due) {
        due.sentence(0, "a demand is of a member, from a landing to another one, of 1 to 4 strands,");
        for (int strands = 1; strands <= 4; strands++) {
            Cablecourt x = new Cablecourt();
            x.cable(0, 1, 8, 0);
            due.is("demand of " + strands, x.demand(1, 1, 0, strands), 0);
            x.pass(1);
            due.is("so many are taken", x.lent(0), strands);
        }
        due.sentence(3, "`strands`: 1 to 4");
        Cablecourt x = new Cablecourt();
        due.is("1", x.demand(0, 0, 1, 1), 0);
        due.is("4", x.demand(0, 0, 1, 4), 1);
        due.argument("0", () -> x.demand(0, 0, 1, 0));
        due.argument("5", () -> x.demand(0, 0, 1, 5));
        due.sentence(3, "Tells a demand.");
        due.is("one more", x.demand(3, 0, 1, 2), 2);
        x.pass(1);
        due.is("it is there from then on", x.account(3), 10);
    }

    private static void tellingRefused(Due due) {
        Cablecourt x = new Cablecourt();
        due.sentence(3, "Throws `IndexOutOfBoundsException` as told, of the member or either landing");
        due.index("the member, all else right", () -> x.demand(6, 0, 5, 4));
        due.index("the first landing, all else right", () -> x.demand(5, 6, 5, 4));
        due.index("the other landing, all else right", () -> x.demand(5, 5, 6, 4));
        due.index("both landings the same, and none", () -> x.demand(0, 6, 6, 1));
        due.index("landings the same, and no member", () -> x.demand(-1, 0, 0, 1));
        due.index("no strands, and no landing", () -> x.demand(0, 0, -1, 0));
        due.sentence(3, "Throws `IllegalArgumentException` if both landings are the same, or strands is out of range");
        for (int p = 0; p <= 5; p++) {
            int q = p;
            due.argument("both landings " + p, () -> x.demand(0, q, q, 1));
        }
        for (int strands : Due.outside(1, 4)) {
            due.argument("strands " + strands, () -> x.demand(0, 0, 5, strands));
        }
        due.index("nothing was told", () -> x.way(0));
        x.pass(1);
        due.is("nothing is credited", x.account(NONE), 0);
    }

    private static void fromItsHour(Due due) {
        due.sentence(0, "from the hour in which it is told.");
        int[] before = {0, 1, 24, 499};
        for (int hours : before) {
            Cablecourt x = new Cablecourt();
            x.cable(0, 1, 1, 1);
            Due.passHours(x, hours);
            x.demand(0, 0, 1, 1);
            x.demand(2, 4, 5, 1);
            due.is("told in the hour " + hours + ", nothing yet", x.owes(0, 1), 0);
            due.is("no credit yet", x.account(2), 0);
            x.pass(1);
            due.is("led in the hour " + hours, x.way(0), 1);
            due.is("one hour's loan", x.owes(0, 1), 200);
            due.is("one hour's credit", x.account(2), 5);
        }
    }

    private static void anewEachHour(Due due) {
        due.sentence(0, "In each hour all demands are led anew, in two rounds,");
        Cablecourt x = new Cablecourt();
        x.cable(0, 1, 1, 0);
        x.cable(0, 1, 1, 1);
        x.demand(0, 0, 1, 1);
        x.demand(1, 0, 1, 1);
        for (int hour = 0; hour < 3; hour++) {
            x.pass(1);
            due.is("0 over its own", x.way(0), 1);
            due.is("1 over its own", x.way(1), 2);
        }
        x.sell(0, 0, 1, 1, 0);
        x.sell(1, 1, 0, 1, 0);
        x.pass(1);
        due.is("0 over the other one", x.way(0), 2);
        due.is("1 over the other one", x.way(1), 1);
        x.cut(1, 0);
        x.pass(1);
        due.is("0 not at all: it comes in the second round", x.way(0), NONE);
        due.is("1 over its own still", x.way(1), 1);
        x.cable(0, 1, 1, 0);
        x.pass(1);
        due.is("0 again", x.way(0), 4);
    }

    private static void byTheirNumbers(Due due) {
        due.sentence(0, "by their numbers in each:");
        for (int owner = 0; owner <= 1; owner++) {
            Cablecourt x = new Cablecourt();
            x.cable(0, 1, 7, owner);
            for (int d = 0; d < 10; d++) {
                x.demand(0, 0, 1, 1);
            }
            x.pass(1);
            for (int d = 0; d < 10; d++) {
                due.is("seven strands of " + owner + ": way(" + d + ")", x.way(d), d < 7 ? 1 : NONE);
                due.is("lent(" + d + ")", x.lent(d), d < 7 ? owner : 0);
            }
        }
    }

    /** The demand 0 of so many strands, all but one or all of them its member's, and the demand 1 of the other owner. */
    private static void aloneInTheFirstRound(Due due) {
        due.sentence(0, "in the first one those that can be led over strands of their member alone,");
        for (int strands = 1; strands <= 4; strands++) {
            Cablecourt x = new Cablecourt();
            x.cable(0, 1, strands, 1);
            if (strands > 1) {
                x.sell(0, 1, 0, strands - 1, 0);
            }
            x.demand(0, 0, 1, strands);
            x.demand(1, 0, 1, 1);
            x.pass(1);
            due.is("one strand short of " + strands + ": the other one comes first", x.way(1), 1);
            due.is("nothing is left for it", x.way(0), NONE);
            Cablecourt y = new Cablecourt();
            y.cable(0, 1, strands, 0);
            y.demand(0, 0, 1, strands);
            y.demand(1, 0, 1, 1);
            y.pass(1);
            due.is("all " + strands + " of its own: it comes first", y.way(0), 1);
            due.is("nothing is left for the other one", y.way(1), NONE);
        }
    }

    private static void aloneOnEveryCable(Due due) {
        Cablecourt x = new Cablecourt();
        x.cable(0, 1, 1, 0);
        x.cable(1, 2, 1, 0);
        x.cable(2, 3, 1, 1);
        x.demand(0, 0, 3, 1);
        x.demand(1, 2, 3, 1);
        x.pass(1);
        due.is("the last cable is lent, so the owner comes first", x.way(1), 4);
        due.is("and nothing is left", x.way(0), NONE);
        x.sell(2, 1, 0, 1, 0);
        x.pass(1);
        due.is("now all three are its own", x.way(0), 7);
        due.is("and the other one is left", x.way(1), NONE);
    }

    private static void ledAtAll(Due due) {
        due.sentence(0, "in the second one the others, if they can be led at all.");
        Cablecourt x = new Cablecourt();
        x.demand(0, 0, 1, 1);
        x.pass(1);
        due.is("no cable at all", x.way(0), NONE);
        x.cable(1, 2, 8, 0);
        x.cable(3, 0, 8, 0);
        x.pass(1);
        due.is("no way between them", x.way(0), NONE);
        x.cable(3, 2, 1, 5);
        x.pass(1);
        due.is("a way with a lent strand", x.way(0), 7);
        due.is("one is lent", x.lent(0), 1);
    }

    private static void wholeCables(Due due) {
        due.sentence(0, "A demand is led along a way of whole cables, no landing twice,");
        Cablecourt x = new Cablecourt();
        x.cable(0, 1, 1, 0);
        x.cable(1, 2, 1, 0);
        x.demand(0, 0, 2, 1);
        x.ship(1, 200, 1);
        x.pass(1);
        due.is("both are whole", x.way(0), 3);
        x.cut(1, 0);
        x.pass(1);
        due.is("the second one is not", x.way(0), NONE);
        x.send(0, 0);
        x.pass(5);
        due.is("mended at the end of the fifth hour", x.way(0), NONE);
        x.pass(1);
        due.is("whole again", x.way(0), 3);
    }

    private static void longestWay(Due due) {
        Cablecourt x = new Cablecourt();
        int[] landings = {0, 1, 2, 3, 4, 5};
        for (int round = 0; round < 2; round++) {
            for (int i = 4; i >= 0; i--) {
                x.cable(landings[i], landings[i + 1], 4, 1);
            }
        }
        x.demand(0, 0, 5, 4);
        x.demand(0, 5, 0, 4);
        x.demand(0, 1, 0, 1);
        x.pass(1);
        due.is("all six landings", x.way(0), 31);
        due.is("and once more, with the cables 5 to 9", x.way(1), 31 << 5);
        due.is("then all is taken", x.way(2), NONE);
        due.is("each strand of each cable", x.owes(0, 1), 2 * 4 * 1000);
        Cablecourt y = new Cablecourt();
        y.cable(0, 1, 1, 0);
        y.cable(1, 2, 1, 0);
        y.cable(2, 0, 1, 0);
        y.demand(0, 0, 5, 1);
        y.pass(1);
        due.is("a ring has an end, and no way out", y.way(0), NONE);
    }

    private static void soManyAreFree(Due due) {
        due.sentence(0, "on each of which so many strands are free,");
        for (int strands = 2; strands <= 4; strands++) {
            for (int narrow = 0; narrow < 3; narrow++) {
                Cablecourt x = new Cablecourt();
                for (int c = 0; c < 3; c++) {
                    x.cable(c, c + 1, c == narrow ? strands - 1 : strands, c % 2);
                }
                x.demand(0, 0, 3, strands);
                x.demand(0, 0, 3, strands - 1);
                x.pass(1);
                due.is("one short of " + strands + " on cable " + narrow, x.way(0), NONE);
                due.is("just as many", x.way(1), 7);
            }
        }
    }

    private static void takenInThisHour(Due due) {
        due.sentence(0, "that is, not taken in this hour yet:");
        Cablecourt x = new Cablecourt();
        x.cable(0, 1, 8, 1);
        x.demand(0, 0, 1, 4);
        x.demand(1, 0, 1, 1);
        x.demand(2, 0, 1, 3);
        x.demand(3, 0, 1, 1);
        for (int hour = 1; hour <= 2; hour++) {
            x.pass(1);
            due.is("1, 4 and 3 are eight", x.way(2), 1);
            due.is("none is free", x.way(3), NONE);
            due.is("each hour anew", x.owes(2, 1), 600 * hour);
        }
        Cablecourt y = new Cablecourt();
        y.cable(0, 1, 8, 1);
        y.demand(0, 0, 1, 4);
        y.demand(2, 0, 1, 4);
        y.pass(1);
        due.is("4 and 4 are eight", y.way(1), 1);
        y.demand(1, 0, 1, 1);
        y.pass(1);
        due.is("one is taken in the first round", y.way(1), NONE);
    }

    /** A cable of eight strands, one of each member but two of 5 and of 4, and a demand of each member. */
    private static void whoseStrands(Due due) {
        due.sentence(0, "strands of the member first, then those of the others by the numbers of the members.");
        int[] owned = {1, 1, 1, 1, 2, 2};
        for (int member = 0; member <= 5; member++) {
            for (int strands = 1; strands <= 4; strands++) {
                Cablecourt x = new Cablecourt();
                x.cable(3, 4, 8, 5);
                for (int m = 0; m < 5; m++) {
                    x.sell(0, 5, m, owned[m], 0);
                }
                x.demand(member, 3, 4, strands);
                x.pass(1);
                int left = strands - Math.min(strands, owned[member]);
                due.is("lent to " + member, x.lent(0), left);
                for (int o = 0; o <= 5; o++) {
                    int taken = o == member ? 0 : Math.min(left, owned[o]);
                    left -= taken;
                    due.is(member + " owes " + o + " for " + strands, x.owes(member, o), 200 * taken);
                }
            }
        }
    }

    private static void fewestOfOthers(Due due) {
        due.sentence(0, "Of several ways it takes that on which the fewest strands are not its member's,");
        Cablecourt x = new Cablecourt();
        x.cable(2, 3, 4, 1);
        int[] landings = {2, 5, 0, 4, 1, 3};
        for (int i = 0; i < 5; i++) {
            x.cable(landings[i], landings[i + 1], 4, 0);
        }
        x.sell(1, 0, 1, 3, 0);
        x.sell(5, 0, 1, 1, 0);
        x.demand(0, 2, 3, 4);
        x.pass(1);
        due.is("4 on one cable, 3 + 1 on five: the shortest", x.way(0), 1);
        due.is("four are lent", x.lent(0), 4);
        x.sell(5, 1, 0, 1, 0);
        x.pass(1);
        due.is("3 on five rather than 4 on one", x.way(0), 62);
        due.is("three are lent", x.lent(0), 3);
        x.sell(0, 1, 0, 1, 0);
        x.pass(1);
        due.is("3 on one is shorter than 3 on five", x.way(0), 1);
        x.sell(0, 0, 1, 1, 0);
        x.sell(1, 1, 0, 3, 0);
        x.pass(1);
        due.is("none of others on five", x.way(0), 62);
        due.is("none is lent", x.lent(0), 0);
    }

    private static void shortest(Due due) {
        due.sentence(0, "of these the shortest one,");
        for (int owner = 0; owner <= 1; owner++) {
            Cablecourt x = new Cablecourt();
            x.cable(0, 5, 2, owner);
            x.cable(5, 1, 2, owner);
            x.cable(0, 3, 2, owner);
            x.cable(1, 3, 2, owner);
            x.cable(0, 2, 2, owner);
            x.cable(2, 1, 2, owner);
            for (int d = 0; d < 4; d++) {
                x.demand(0, 0, 1, 2);
            }
            x.pass(1);
            due.is("600", x.way(0), 48);
            due.is("then 1000", x.way(1), 12);
            due.is("then 1800", x.way(2), 3);
            due.is("then none", x.way(3), NONE);
        }
        Cablecourt y = new Cablecourt();
        y.cable(0, 4, 1, 0);
        y.cable(4, 2, 1, 0);
        y.cable(0, 1, 1, 0);
        y.cable(1, 3, 1, 0);
        y.cable(3, 2, 1, 0);
        y.demand(0, 0, 2, 1);
        y.pass(1);
        due.is("three cables of 800 rather than two of 1200", y.way(0), 28);
    }

    private static void lowestNumbers(Due due) {
        due.sentence(0, "of these that whose cables have the lowest numbers, the first ones first.");
        Cablecourt x = new Cablecourt();
        for (int c = 0; c < 10; c++) {
            x.cable(c % 2, 1 - c % 2, 1, 0);
        }
        for (int d = 0; d < 10; d++) {
            x.demand(0, d % 2, 1 - d % 2, 1);
        }
        x.pass(1);
        for (int d = 0; d < 10; d++) {
            due.is("of ten alike: way(" + d + ")", x.way(d), 1 << d);
        }
        Cablecourt y = new Cablecourt();
        y.cable(0, 1, 1, 0);
        y.cable(0, 2, 1, 0);
        y.cable(1, 2, 1, 0);
        y.demand(0, 0, 2, 1);
        y.demand(0, 2, 0, 1);
        y.pass(1);
        due.is("0 and 2 come before 1", y.way(0), 5);
        due.is("then 1", y.way(1), 2);
        Cablecourt z = new Cablecourt();
        z.cable(0, 1, 1, 0);
        z.cable(0, 2, 1, 0);
        z.cable(1, 2, 1, 0);
        z.demand(0, 2, 0, 1);
        z.pass(1);
        due.is("from the other landing 1 comes before 2 and 0", z.way(0), 2);
        Cablecourt w = new Cablecourt();
        w.cable(0, 1, 4, 0);
        w.cable(2, 3, 4, 0);
        w.cable(1, 2, 1, 0);
        w.cable(1, 2, 1, 0);
        w.cable(1, 2, 1, 0);
        w.demand(0, 0, 3, 1);
        w.demand(0, 3, 0, 1);
        w.demand(0, 0, 3, 1);
        w.pass(1);
        due.is("the same first one, then the lowest second one", w.way(0), 7);
        due.is("then the next one, from behind", w.way(1), 11);
        due.is("then the last one", w.way(2), 19);
    }

    private static void wayAtItsEnds(Due due) {
        Cablecourt x = new Cablecourt();
        due.sentence(13, "Throws `IndexOutOfBoundsException` as told");
        due.index("no demand yet", () -> x.way(0));
        x.demand(0, 0, 1, 1);
        x.demand(0, 0, 1, 1);
        for (int d : Due.outside(0, 1)) {
            due.index("way(" + d + ")", () -> x.way(d));
        }
        due.sentence(13, "Returns the set of its cables: bit c for the cable c;");
        for (int c = 0; c < 10; c++) {
            x.cable(0, 1, 1, 0);
            x.pass(1);
            due.is("the cable " + c + " for the demand 0", x.way(0), 1 << Math.max(0, c - 1));
            due.is("the cable " + c + " for the demand 1", x.way(1), c == 0 ? NONE : 1 << c);
            if (c > 0) {
                x.cut(c - 1, 0);
            }
        }
        due.sentence(13, "NONE if it was not led, or there was no hour since it was told.");
        x.cut(9, 0);
        due.is("it was led in the last hour", x.way(1), 512);
        x.pass(1);
        due.is("it was not", x.way(1), NONE);
        due.is("told anew", x.demand(0, 0, 1, 1), 2);
        due.is("no hour since then", x.way(2), NONE);
        due.sentence(13, "Returns the way of a demand in the last hour.");
        Cablecourt y = new Cablecourt();
        y.cable(0, 1, 1, 0);
        y.demand(0, 0, 1, 1);
        due.is("no hour yet", y.way(0), NONE);
        y.pass(1);
        due.is("the hour 0", y.way(0), 1);
        y.demand(0, 0, 1, 1);
        y.cable(0, 1, 1, 0);
        y.cut(0, 0);
        y.sell(0, 0, 1, 1, 0);
        due.is("the hour 0 still", y.way(0), 1);
        y.pass(24);
        due.is("the last one of the 24", y.way(0), 2);
    }

    private static void lentAtItsEnds(Due due) {
        Cablecourt x = new Cablecourt();
        due.sentence(14, "Throws `IndexOutOfBoundsException` as told");
        due.index("no demand yet", () -> x.lent(0));
        x.demand(0, 0, 5, 4);
        for (int d : Due.outside(0, 0)) {
            due.index("lent(" + d + ")", () -> x.lent(d));
        }
        due.sentence(14, "Returns how many strands a demand took of other members in the last hour, of all cables of its way;");
        for (int c = 0; c < 5; c++) {
            x.cable(c, c + 1, 4, 1 + c);
        }
        due.is("no hour yet", x.lent(0), 0);
        x.pass(1);
        due.is("the most: four on five cables", x.lent(0), 20);
        for (int sold = 1; sold <= 20; sold++) {
            int cable = (sold - 1) / 4;
            x.sell(cable, 1 + cable, 0, 1, 0);
            due.is("the last hour's still", x.lent(0), 21 - sold);
            x.pass(1);
            due.is("one of its own more", x.lent(0), 20 - sold);
            due.is("the way is the same", x.way(0), 31);
        }
        due.sentence(14, "0 if it was not led.");
        x.demand(3, 5, 0, 1);
        due.is("told just now", x.lent(1), 0);
        x.pass(1);
        due.is("nothing is left for it", x.lent(1), 0);
        due.is("as its way tells", x.way(1), NONE);
        Cablecourt y = new Cablecourt();
        y.cable(0, 1, 4, 1);
        y.demand(0, 0, 1, 4);
        y.pass(1);
        due.is("led", y.lent(0), 4);
        y.cut(0, 0);
        due.is("it was led in the last hour", y.lent(0), 4);
        y.pass(1);
        due.is("it was not", y.lent(0), 0);
        y.demand(0, 0, 1, 4);
        due.is("the next one neither", y.lent(1), 0);
    }
}
