import java.util.Random;

/**
 * Long runs of drawn calls (the seeds are fixed), each answer held against the model's. A run ends
 * with its 512th call, the last two hundred of which ask all over the town.
 */
public final class RandomRunsTest {
    private static final int RUNS = 3000, CALLS = 512, ASKED_LAST = 200, MOST_OF_A_STEP = 27;
    private static final String[] ORDERS = {"b0 0 1 1 9", "b0 2 2 2 5", "b9 0 1 1 9", "s0 1 0 20", "s10 0 1 16",
        "g12 3 2 2", "g12 5 3 1", "b0 4 1 1 9", "s0 5 0 9", "b0 6 3 2 3", "s0 8 0 20", "g0 9 9 2", "b11 9 1 2 8",
        "s5 0 1 5", "b14 12 2 2 3", "g11 12 1 1", "g12 12 1 1"};
    private static final Check CHECK = new Check();

    private final Random random;
    private final int run;
    private final PaperTown town = new PaperTown();
    private final Model model = new Model();
    private int calls;

    private RandomRunsTest(int run) {
        this.run = run;
        this.random = new Random(run);
    }

    public static void main(String[] args) {
        for (int run = 0; run < RUNS; run++) {
            new RandomRunsTest(run).go();
        }
        CHECK.end();
    }

    private void go() {
        for (int n = random.nextInt(3); n > 0; n--) {
            typeOrders(1 + random.nextInt(6));
        }
        while (calls + MOST_OF_A_STEP < CALLS - ASKED_LAST) {
            call(random.nextInt(100));
        }
        while (calls < CALLS) {
            askAnything(random.nextInt(5));
        }
    }

    private void typeOrders(int n) {
        StringBuilder text = new StringBuilder();
        for (int k = 0; k < n; k++) {
            String order = random.nextInt(4) > 0 ? ORDERS[random.nextInt(ORDERS.length)] : drawnOrder();
            text.append(order).append(random.nextInt(60) == 0 ? "" : " ");
        }
        if (random.nextInt(5) == 0 && text.length() > 0) {
            text.setCharAt(random.nextInt(text.length()), " 0123456789bsgx\u00ff".charAt(random.nextInt(16)));
        }
        feedAll(text.toString());
        due("draw", town.draw(), model.draw());
        due("place", town.place(), model.place());
    }

    private String drawnOrder() {
        int kind = random.nextInt(3);
        StringBuilder order = new StringBuilder().append("bsg".charAt(kind));
        int[] tops = kind == 0 ? new int[] {20, 16, 4, 4, 9} : kind == 1 ? new int[] {20, 16, 2, 21}
            : new int[] {20, 16, 5, 5};
        for (int top : tops) {
            order.append(" ").append(random.nextInt(30) == 0 ? random.nextInt(130) : random.nextInt(top));
        }
        return order.toString();
    }

    private void feedAll(String text) {
        for (int i = 0; i < text.length(); i += 8) {
            int n = Math.min(8, text.length() - i);
            long word = random.nextLong();
            for (int k = 0; k < n; k++) {
                word = word << 8 | text.charAt(i + k);
            }
            due("feed", town.feed(n, word), model.feed(n, word));
        }
    }

    private void call(int kind) {
        int l = someLot();
        int p = somePerson();
        if (kind < 3) {
            typeOrders(1 + random.nextInt(3));
        } else if (kind < 5) {
            int n = random.nextInt(10);
            due("feed", town.feed(n, kind), model.feed(n, kind));
        } else if (kind < 7) {
            int s = random.nextInt(14) - 1;
            due("vacate " + s, town.vacate(s), model.vacate(s));
        } else if (kind < 9) {
            int x = random.nextInt(22) - 1;
            int y = random.nextInt(18) - 1;
            due("halt", town.halt(x, y), model.halt(x, y));
        } else if (kind < 12) {
            int money = random.nextInt(4) == 0 ? random.nextInt(1000100) - 50 : random.nextInt(500);
            due("person", town.person(money), model.person(money));
        } else if (kind < 17) {
            int v = random.nextInt(4) == 0 ? random.nextInt(2000100) - 1000050 : random.nextInt(400) - 150;
            due("money", town.money(p, v), model.money(p, v));
        } else if (kind < 38) {
            int sum = random.nextInt(20) == 0 ? random.nextInt(1000020) - 10 : random.nextInt(600);
            due("bid", town.bid(l, p, sum), model.bid(l, p, sum));
        } else if (kind < 54) {
            due("close " + l, town.close(l), model.close(l));
        } else if (kind < 62) {
            due("pass", town.pass(l, p), model.pass(l, p));
        } else if (kind < 70) {
            int day = model.count(3) + random.nextInt(500) - 20;
            due("give", town.give(l, p, day), model.give(l, p, day));
        } else if (kind < 72) {
            int v = random.nextInt(6) == 0 ? random.nextInt(110) - 5 : random.nextInt(12);
            due("rate", town.rate(v), model.rate(v));
        } else if (kind < 85) {
            int n = random.nextInt(30) == 0 ? random.nextInt(1010) - 5 : random.nextInt(120);
            due("days " + n, town.days(n), model.days(n));
        } else {
            ask(kind, l, p);
        }
    }

    private void ask(int kind, int l, int p) {
        int what = random.nextInt(17) - 1;
        if (kind < 88) {
            int day = random.nextInt(model.count(3) + 4) - 2;
            due("title", town.title(l, day), model.title(l, day));
        } else if (kind < 90) {
            due("lot", town.lot(l, what), model.lot(l, what));
        } else if (kind < 92) {
            due("told", town.told(p, what), model.told(p, what));
        } else if (kind < 94) {
            due("count", town.count(what), model.count(what));
        } else if (kind < 98) {
            int sum = random.nextInt(5) == 0 ? random.nextInt(1000100) - 50 : random.nextInt(300);
            due("bond", town.bond(sum, what % 3), model.bond(sum, what % 3));
        } else {
            due("cell", town.cell(what, kind - 90), model.cell(what, kind - 90));
        }
    }

    private int someLot() {
        return random.nextInt(15) == 0 ? random.nextInt(60) - 10 : random.nextInt(1 + model.count(0));
    }

    private int somePerson() {
        return random.nextInt(15) == 0 ? random.nextInt(40) - 10 : random.nextInt(1 + model.count(2));
    }

    private void askAnything(int kind) {
        int l = someLot();
        int p = somePerson();
        if (kind == 0) {
            int c = random.nextInt(320);
            due("cell " + c, town.cell(c % 20, c / 20), model.cell(c % 20, c / 20));
        } else if (kind == 1) {
            int what = random.nextInt(10);
            due("lot " + l + ", " + what, town.lot(l, what), model.lot(l, what));
        } else if (kind == 2) {
            int day = random.nextInt(1 + model.count(3));
            due("title " + l + ", " + day, town.title(l, day), model.title(l, day));
        } else if (kind == 3) {
            int what = random.nextInt(4);
            due("told " + p + ", " + what, town.told(p, what), model.told(p, what));
        } else {
            int what = random.nextInt(14);
            due("count " + what, town.count(what), model.count(what));
        }
    }

    private void due(String call, int got, int want) {
        calls++;
        CHECK.due("run " + run + ": " + call, got, want);
    }
}
