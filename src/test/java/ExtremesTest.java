/** Every call with the numbers at the edges, in several states and behind the 512th call: nothing is thrown. */
public final class ExtremesTest {
    private static final Check CHECK = new Check();
    private static final int[] EDGES = {Integer.MIN_VALUE, Integer.MIN_VALUE + 1, -1000001, -1000000, -1, 0, 1, 2, 9,
        15, 16, 19, 20, 39, 40, 100, 101, 512, 1000, 1001, 9999, 10000, 1000000, 1000001, Integer.MAX_VALUE};

    public static void main(String[] args) {
        for (int a : EDGES) {
            for (int b : EDGES) {
                callAll(new PaperTown(), a, b);
                callAll(Check.toldTown(ExtremesTest::smallTown), a, b);
            }
        }
        farBehindTheLastCall();
        CHECK.end();
    }

    private static void smallTown(PaperTown town) {
        Check.type(town, "b0 0 1 1 2 g5 5 1 1 s0 1 0 3");
        town.draw();
        town.person(100);
        town.person(1000000);
        town.bid(0, 1, 1000000);
    }

    private static void callAll(PaperTown town, int a, int b) {
        town.feed(a, b);
        town.draw();
        town.cell(a, b);
        town.halt(a, b);
        town.person(a);
        town.money(a, b);
        for (int c : EDGES) {
            town.bid(a, b, c);
            town.give(a, b, c);
        }
        town.close(a);
        town.pass(a, b);
        town.rate(a);
        town.days(b);
        town.vacate(a);
        town.lot(a, b);
        town.title(a, b);
        town.told(a, b);
        town.bond(a, b);
        town.count(a);
        CHECK.due("still answers after " + a + ", " + b, town.count(14), PaperTown.OUTSIDE);
    }

    /** What is answered there is free: the calls have only to end. */
    private static void farBehindTheLastCall() {
        PaperTown town = Check.town("b0 0 1 1 2 g5 5 1 1");
        town.person(0);
        town.person(0);
        town.give(2, 0, 9999);
        for (int i = 0; i < 100000; i++) {
            town.pass(2, (i + 1) % 2);
            town.bid(0, i % 2, 1);
            town.title(2, 0);
        }
    }
}
