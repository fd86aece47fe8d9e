import java.util.Random;

/** All promises together: long runs of calls, each answer beside that of PlainClub. */
public final class ModelTest {
    private static final int CALLS = 512;

    private final Due due;
    private final Random random;
    private final String run;
    private final Cablecourt x = new Cablecourt();
    private final PlainClub plain = new PlainClub();
    private final boolean quiet;

    private ModelTest(Due due, int seed) {
        this.due = due;
        this.random = new Random(seed);
        this.run = "run " + seed + " ";
        this.quiet = seed % 2 == 0;
    }

    public static void main(String[] args) {
        Due due = new Due("ModelTest");
        int runs = args.length > 0 ? Integer.parseInt(args[0]) : 300;
        for (int seed = 0; seed < runs; seed++) {
            new ModelTest(due, seed).calls();
        }
        due.end();
    }

    private void calls() {
        int[] weights = new int[21];
        for (int i = 0; i < weights.length; i++) {
            weights[i] = 1 + random.nextInt(4);
        }
        for (int i = 0; i < CALLS; i++) {
            int kind = i < 25 && random.nextInt(3) > 0 ? random.nextInt(2) : pick(weights);
            one(kind);
        }
    }

    private int pick(int[] weights) {
        int sum = 0;
        for (int w : weights) {
            sum += w;
        }
        int left = random.nextInt(sum);
        int kind = 0;
        while (left >= weights[kind]) {
            left -= weights[kind];
            kind++;
        }
        return kind;
    }

    /** A number in the range most times, else one at its edges or far away. */
    private int num(int least, int most) {
        int dice = random.nextInt(quiet ? 200 : 40);
        if (dice == 0) {
            return least - 1;
        }
        if (dice == 1) {
            return most + 1;
        }
        if (dice == 2) {
            return random.nextInt();
        }
        if (dice == 3) {
            return least;
        }
        if (dice == 4) {
            return most;
        }
        return least + random.nextInt(most - least + 1);
    }

    private interface Answer {
        long get();
    }

    private static long made(Answer a) {
        try {
            return a.get();
        } catch (IndexOutOfBoundsException e) {
            return e.getClass() == IndexOutOfBoundsException.class ? Long.MIN_VALUE : Long.MIN_VALUE + 9;
        } catch (IllegalArgumentException e) {
            return Long.MIN_VALUE + 1;
        } catch (IllegalStateException e) {
            return Long.MIN_VALUE + 2;
        }
    }

    private void both(String call, Answer got, Answer want) {
        due.is(run + call, made(got), made(want));
    }

    private void one(int kind) {
        int a = num(0, 5);
        int b = num(0, 5);
        int c = num(0, 9);
        switch (kind) {
            case 0: {
                int strands = num(1, 8);
                int m = num(0, 5);
                both("cable", () -> x.cable(a, b, strands, m), () -> plain.cable(a, b, strands, m));
                break;
            }
            case 1: {
                int strands = num(1, 4);
                int m = num(0, 5);
                both("demand", () -> x.demand(m, a, b, strands), () -> plain.demand(m, a, b, strands));
                break;
            }
            case 2:
                one2(a, b, c);
                break;
            case 3: {
                int place = num(0, random.nextInt(3) == 0 ? 1000 : 200);
                both("cut", () -> x.cut(c, place), () -> plain.cut(c, place));
                break;
            }
            case 4: {
                int speed = num(10, 200);
                int store = num(0, 10);
                both("ship", () -> x.ship(a, speed, store), () -> plain.ship(a, speed, store));
                break;
            }
            case 5: {
                int ship = num(0, 2);
                int cut = num(-1, 15);
                both("send", () -> x.send(ship, cut), () -> plain.send(ship, cut));
                break;
            }
            case 6: {
                int ship = num(0, 2);
                int store = num(0, 10);
                both("fill", () -> x.fill(ship, store), () -> plain.fill(ship, store));
                break;
            }
            case 7: {
                int from = num(0, 500);
                int to = from + num(-1, 6);
                both("storm", () -> {
                    x.storm(from, to);
                    return 0;
                }, () -> plain.storm(from, to));
                break;
            }
            case 8: {
                int hours = num(1, quiet ? 24 : 8);
                both("pass", () -> x.pass(hours), () -> plain.pass(hours));
                break;
            }
            default:
                question(kind, a, b, c);
        }
    }

    private void one2(int a, int b, int c) {
        int strands = num(1, random.nextInt(2) == 0 ? 2 : 8);
        int price = num(0, 100000);
        both("sell", () -> x.sell(c, a, b, strands, price), () -> plain.sell(c, a, b, strands, price));
    }

    private void question(int kind, int a, int b, int c) {
        int s = num(0, 2);
        int k = num(0, 15);
        int m = num(-1, 5);
        switch (kind) {
            case 9:
                both("owned", () -> x.owned(c, a), () -> plain.owned(c, a));
                break;
            case 10:
                both("isWhole", () -> x.isWhole(c) ? 1 : 0, () -> plain.isWhole(c) ? 1 : 0);
                break;
            case 11:
                both("way", () -> x.way(c), () -> plain.way(c));
                break;
            case 12:
                both("lent", () -> x.lent(c), () -> plain.lent(c));
                break;
            case 13:
                both("owes", () -> x.owes(a, b), () -> plain.owes(a, b));
                break;
            case 14:
                both("owesAnew", () -> x.owesAnew(a, b), () -> plain.owes(a, b));
                break;
            case 15:
                both("account", () -> x.account(m), () -> plain.account(m));
                break;
            case 16:
                both("spent", () -> x.spent(), () -> plain.spent());
                break;
            case 17:
                both("sold", () -> x.sold(a, b), () -> plain.sold(a, b));
                break;
            case 18:
                both("place", () -> x.place(s), () -> plain.place(s));
                break;
            case 19:
                both("worked", () -> x.worked(k), () -> plain.worked(k));
                break;
            default:
                both("seal", () -> x.seal(), () -> plain.seal());
        }
    }
}
