/** Every call with the numbers at the edges, in many states and behind the 512th call: nothing is thrown. */
public final class ExtremesTest {
    private static final Check CHECK = new Check();
    private static final int[] EDGES = {Integer.MIN_VALUE, Integer.MIN_VALUE + 1, -1000001, -1000000, -1, 0, 1, 2, 9,
        15, 16, 19, 20, 39, 40, 100, 101, 512, 1000, 1001, 9999, 10000, 1000000, 1000001, Integer.MAX_VALUE};

    public static void main(String[] args) {
        refusedAtTheEdges(new PaperTown());
        refusedAtTheEdges(Check.town("b0 0 1 1 2 g5 5 1 1 s0 1 0 3"));
        farBehindTheLastCall();
        CHECK.end();
    }

    private static void refusedAtTheEdges(PaperTown town) {
        for (int a : EDGES) {
            for (int b : EDGES) {
                town.feed(a, b);
                town.cell(a, b);
                town.lot(a, b);
                town.title(a, b);
                town.told(a, b);
                town.bond(a, b);
                town.halt(a, b);
                town.money(a, b);
                town.pass(a, b);
                for (int c : EDGES) {
                    town.bid(a, b, c);
                    town.give(a, b, c);
                }
            }
            town.vacate(a);
            town.person(a);
            town.close(a);
            town.rate(a);
            town.count(a);
            town.days(a);
            town.draw();
        }
        CHECK.due("still there", town.count(2) > 0 ? 1 : 0, 1);
    }

    private static void farBehindTheLastCall() {
        PaperTown town = Check.town("b0 0 1 1 2 g5 5 1 1");
        town.person(0);
        town.person(0);
        town.give(2, 0, 9999);
        for (int i = 0; i < 100000; i++) {
            town.pass(2, (i + 1) % 2);
        }
        CHECK.due("the owner", town.lot(2, 1), 0);
        for (int i = 0; i < 10000; i++) {
            town.bid(0, i % 2, 1);
        }
        CHECK.due("the bids", town.bid(0, 0, 1), 2);
    }
}
