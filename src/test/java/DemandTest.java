/** Promises 3, 13 and 14: demand, way, lent, and how demands are led. */
public final class DemandTest {
    public static void main(String[] args) {
        Due due = new Due("DemandTest");
        numbers(due);
        wrongArguments(due);
        ownBeforeLent(due);
        twoRounds(due);
        fewestThenShortestThenLowest(due);
        firstCablesFirst(due);
        takenStrands(due);
        onlyWholeCables(due);
        noLandingTwice(due);
        longestWay(due);
        fromTheHourTold(due);
        tenOfEach(due);
        due.end();
    }

    private static void numbers(Due due) {
        Cablecourt x = new Cablecourt();
        for (int d = 0; d < 10; d++) {
            due.is("demand " + d, x.demand(5, 5, 0, 4), d);
            due.is("way before an hour", x.way(d), Cablecourt.NONE);
            due.is("lent before an hour", x.lent(d), 0);
        }
        due.state("the eleventh", () -> x.demand(0, 0, 1, 1));
        due.argument("argument before state", () -> x.demand(0, 0, 0, 1));
        due.index("index before state", () -> x.demand(6, 0, 1, 1));
        due.index("way(10)", () -> x.way(10));
        due.index("lent(10)", () -> x.lent(10));
    }

    private static void wrongArguments(Due due) {
        Cablecourt x = new Cablecourt();
        due.index("member -1", () -> x.demand(-1, 0, 1, 1));
        due.index("member 6", () -> x.demand(6, 0, 1, 1));
        due.index("landing -1", () -> x.demand(0, -1, 1, 1));
        due.index("landing 6", () -> x.demand(0, 6, 1, 1));
        due.index("other -1", () -> x.demand(0, 0, -1, 1));
        due.index("other 6", () -> x.demand(0, 0, 6, 1));
        due.index("index before argument", () -> x.demand(0, 0, 6, 9));
        due.argument("same landings", () -> x.demand(0, 2, 2, 1));
        due.argument("strands 0", () -> x.demand(0, 0, 1, 0));
        due.argument("strands 5", () -> x.demand(0, 0, 1, 5));
        due.index("way(0)", () -> x.way(0));
        due.index("way(-1)", () -> x.way(-1));
        due.index("lent(0)", () -> x.lent(0));
        due.index("lent(-1)", () -> x.lent(-1));
        due.is("the first one has the number 0", x.demand(0, 0, 1, 1), 0);
    }

    private static void ownBeforeLent(Due due) {
        Cablecourt x = new Cablecourt();
        x.cable(0, 1, 8, 1);
        x.cable(0, 5, 2, 0);
        x.cable(5, 1, 2, 0);
        x.demand(0, 0, 1, 2);
        x.pass(1);
        due.is("a long way of its own rather than a short lent one", x.way(0), 6);
        due.is("nothing is lent", x.lent(0), 0);
        x.sell(2, 0, 2, 1, 0);
        x.pass(1);
        due.is("one lent strand rather than two", x.way(0), 6);
        due.is("one is lent", x.lent(0), 1);
        x.sell(1, 0, 2, 1, 0);
        x.pass(1);
        due.is("two lent strands each, so the shorter one", x.way(0), 1);
        due.is("two are lent", x.lent(0), 2);
    }

    private static void twoRounds(Due due) {
        Cablecourt x = new Cablecourt();
        x.cable(0, 1, 2, 1);
        x.demand(0, 0, 1, 1);
        x.demand(1, 0, 1, 2);
        x.demand(0, 1, 0, 1);
        x.pass(1);
        due.is("the owner is led first", x.way(1), 1);
        due.is("nothing is left for the others", x.way(0), Cablecourt.NONE);
        due.is("nothing is left for the last one", x.way(2), Cablecourt.NONE);
        x.cable(0, 1, 1, 2);
        x.pass(1);
        due.is("in the second round by their numbers", x.way(0), 2);
        due.is("the first one lends", x.lent(0), 1);
        due.is("the other one is left", x.way(2), Cablecourt.NONE);
        due.is("not led, not lent", x.lent(2), 0);
    }

    private static void fewestThenShortestThenLowest(Due due) {
        Cablecourt x = new Cablecourt();
        x.cable(0, 5, 1, 0);
        x.cable(5, 3, 1, 0);
        x.cable(0, 4, 1, 0);
        x.cable(4, 3, 1, 0);
        x.cable(0, 3, 1, 1);
        x.demand(0, 0, 3, 1);
        x.pass(1);
        due.is("1000 rather than 1400, both its own", x.way(0), 12);
        x.demand(0, 0, 3, 1);
        x.demand(0, 0, 3, 1);
        x.pass(1);
        due.is("then 1400", x.way(1), 3);
        due.is("then the lent one", x.way(2), 16);
        Cablecourt y = new Cablecourt();
        y.cable(0, 3, 1, 0);
        y.cable(0, 1, 1, 0);
        y.cable(1, 3, 1, 0);
        y.cable(3, 0, 1, 0);
        y.demand(0, 3, 0, 1);
        y.demand(0, 3, 0, 1);
        y.demand(0, 0, 3, 1);
        y.pass(1);
        due.is("of equal lengths the lowest first cable", y.way(0), 1);
        due.is("then the way of the cables 2 and 1", y.way(1), 6);
        due.is("then the last one", y.way(2), 8);
    }

    private static void firstCablesFirst(Due due) {
        Cablecourt x = new Cablecourt();
        x.cable(0, 1, 1, 0);
        x.cable(2, 3, 1, 0);
        x.cable(0, 2, 1, 0);
        x.cable(1, 3, 1, 0);
        x.demand(0, 0, 3, 1);
        x.pass(1);
        due.is("from 0 the way of 0 and 3", x.way(0), 9);
        Cablecourt y = new Cablecourt();
        y.cable(0, 1, 1, 0);
        y.cable(2, 3, 1, 0);
        y.cable(0, 2, 1, 0);
        y.cable(1, 3, 1, 0);
        y.demand(0, 3, 0, 1);
        y.pass(1);
        due.is("from 3 the way of 1 and 2", y.way(0), 6);
    }

    private static void takenStrands(Due due) {
        Cablecourt x = new Cablecourt();
        x.cable(1, 0, 8, 4);
        x.sell(0, 4, 0, 1, 0);
        x.sell(0, 4, 2, 2, 0);
        x.sell(0, 4, 3, 1, 0);
        x.demand(2, 0, 1, 4);
        x.demand(5, 0, 1, 4);
        x.demand(5, 0, 1, 1);
        x.pass(1);
        due.is("two own, one of 0, one of 3", x.lent(0), 2);
        due.is("owes 0", x.owes(2, 0), 200);
        due.is("owes 3", x.owes(2, 3), 200);
        due.is("owes 4 nothing", x.owes(2, 4), 0);
        due.is("owes itself nothing", x.owes(2, 2), 0);
        due.is("four of 4", x.owes(5, 4), 800);
        due.is("all are taken", x.way(2), Cablecourt.NONE);
        x.pass(1);
        due.is("they are free in the next hour", x.way(0), 1);
        due.is("owes twice", x.owes(5, 4), 1600);
    }

    private static void onlyWholeCables(Due due) {
        Cablecourt x = new Cablecourt();
        x.cable(0, 1, 1, 0);
        x.cable(0, 1, 1, 0);
        x.demand(0, 0, 1, 1);
        x.pass(1);
        due.is("the first cable", x.way(0), 1);
        x.cut(0, 0);
        due.is("the last hour's way until the next one", x.way(0), 1);
        x.pass(1);
        due.is("the second cable", x.way(0), 2);
        x.cut(1, 0);
        x.pass(1);
        due.is("none", x.way(0), Cablecourt.NONE);
        Cablecourt y = new Cablecourt();
        y.cable(0, 1, 1, 1);
        y.demand(0, 0, 1, 1);
        y.pass(1);
        due.is("one lent", y.lent(0), 1);
        y.cut(0, 0);
        due.is("the last hour's until the next one", y.lent(0), 1);
        y.pass(1);
        due.is("none lent when not led", y.lent(0), 0);
    }

    private static void noLandingTwice(Due due) {
        Cablecourt x = new Cablecourt();
        x.cable(0, 1, 1, 0);
        x.cable(1, 2, 1, 0);
        x.cable(2, 0, 1, 0);
        x.demand(0, 0, 3, 1);
        x.pass(1);
        due.is("no way to 3", x.way(0), Cablecourt.NONE);
        x.cable(2, 3, 1, 1);
        x.pass(1);
        due.is("0 to 1 to 2 to 3 is as long as 0 to 2 to 3", x.way(0), 11);
        due.is("one lent", x.lent(0), 1);
    }

    private static void longestWay(Due due) {
        Cablecourt x = new Cablecourt();
        int[] landings = {2, 5, 0, 4, 1, 3};
        for (int i = 0; i < 5; i++) {
            x.cable(landings[i], landings[i + 1], 4, 1);
        }
        x.demand(0, 2, 3, 4);
        x.pass(1);
        due.is("five cables", x.way(0), 31);
        due.is("twenty lent", x.lent(0), 20);
        due.is("owes all of them", x.owes(0, 1), 4 * (600 + 1000 + 800 + 600 + 400));
    }

    private static void fromTheHourTold(Due due) {
        Cablecourt x = new Cablecourt();
        x.cable(0, 1, 1, 0);
        x.demand(0, 0, 1, 1);
        x.pass(3);
        due.is("demand(0, 0, 1, 1)", x.demand(0, 0, 1, 1), 1);
        due.is("no hour since it was told", x.way(1), Cablecourt.NONE);
        due.is("the other one's way stays", x.way(0), 1);
        due.is("no credit before", x.account(0), 0);
        x.pass(1);
        due.is("a credit for one hour", x.account(0), 5);
    }

    private static void tenOfEach(Due due) {
        Cablecourt x = new Cablecourt();
        for (int i = 0; i < 10; i++) {
            x.cable(i % 5, i % 5 + 1, 2, 1);
            x.demand(i % 2, 0, 5, 1);
        }
        x.pass(1);
        int[] want = {-1, 31, -1, 31, -1, 992, -1, 992, -1, -1};
        for (int d = 0; d < 10; d++) {
            due.is("way(" + d + ")", x.way(d), want[d]);
        }
        due.is("five credits", x.account(0), 25);
        due.is("one credit", x.account(1), 5);
        due.is("nothing lent", x.owesAnew(0, 1), 0);
        x.sell(9, 1, 0, 1, 0);
        x.pass(1);
        due.is("its own strand of the last cable, four lent ones", x.way(0), 992);
        due.is("four are lent", x.lent(0), 4);
        due.is("it owes for them", x.owesAnew(0, 1), 800);
        due.is("it came first in the second round", x.way(7), Cablecourt.NONE);
    }
}
