/** Promises 2, 11 and 12: cable, owned, isWhole. */
public final class CableTest {
    public static void main(String[] args) {
        Due due = new Due("CableTest");
        numbersAndOwners(due);
        wrongArguments(due);
        isFull(due);
        due.end();
    }

    private static void numbersAndOwners(Due due) {
        Cablecourt x = new Cablecourt();
        due.is("cable(0, 5, 8, 5)", x.cable(0, 5, 8, 5), 0);
        due.is("cable(5, 0, 1, 0)", x.cable(5, 0, 1, 0), 1);
        due.is("cable(2, 3, 4, 2)", x.cable(2, 3, 4, 2), 2);
        int[][] want = {{0, 0, 0, 0, 0, 8}, {1, 0, 0, 0, 0, 0}, {0, 0, 4, 0, 0, 0}};
        for (int cable = 0; cable < 3; cable++) {
            due.is("isWhole(" + cable + ")", x.isWhole(cable), true);
            for (int member = 0; member < 6; member++) {
                due.is("owned(" + cable + ", " + member + ")", x.owned(cable, member), want[cable][member]);
            }
        }
        due.index("owned(3, 0)", () -> x.owned(3, 0));
        due.index("owned(-1, 0)", () -> x.owned(-1, 0));
        due.index("owned(0, 6)", () -> x.owned(0, 6));
        due.index("owned(0, -1)", () -> x.owned(0, -1));
        due.index("isWhole(3)", () -> x.isWhole(3));
        due.index("isWhole(-1)", () -> x.isWhole(-1));
        due.is("cut(2, 0)", x.cut(2, 0), 0);
        due.is("isWhole(2) when cut", x.isWhole(2), false);
        due.is("isWhole(1) when another is cut", x.isWhole(1), true);
    }

    private static void wrongArguments(Due due) {
        Cablecourt x = new Cablecourt();
        due.index("landing -1", () -> x.cable(-1, 1, 1, 0));
        due.index("landing 6", () -> x.cable(6, 1, 1, 0));
        due.index("other -1", () -> x.cable(1, -1, 1, 0));
        due.index("other 6", () -> x.cable(1, 6, 1, 0));
        due.index("member -1", () -> x.cable(0, 1, 1, -1));
        due.index("member 6", () -> x.cable(0, 1, 1, 6));
        due.index("index before argument", () -> x.cable(0, 0, 0, 6));
        due.index("landings out of range and the same", () -> x.cable(6, 6, 1, 0));
        due.argument("same landings", () -> x.cable(3, 3, 1, 0));
        due.argument("strands 0", () -> x.cable(0, 1, 0, 0));
        due.argument("strands 9", () -> x.cable(0, 1, 9, 0));
        due.argument("strands least", () -> x.cable(0, 1, Integer.MIN_VALUE, 0));
        due.index("nothing was laid", () -> x.isWhole(0));
        due.is("the first one has the number 0", x.cable(0, 1, 1, 0), 0);
    }

    private static void isFull(Due due) {
        Cablecourt x = new Cablecourt();
        for (int c = 0; c < 10; c++) {
            due.is("cable " + c, x.cable(0, 1, 1, 0), c);
        }
        due.state("the eleventh", () -> x.cable(0, 1, 1, 0));
        due.argument("argument before state", () -> x.cable(0, 0, 1, 0));
        due.index("index before state", () -> x.cable(0, 1, 1, 6));
        due.index("there are ten", () -> x.isWhole(10));
        due.is("the tenth is whole", x.isWhole(9), true);
    }
}
