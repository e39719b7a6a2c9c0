/** Promises 1 to 4: a new object, feed, draw, place. */
public final class TextTest {
    private static final Check CHECK = new Check();
    private static final String FORTY =
            "b0 0 1 1 8 b0 2 1 1 8 b0 4 1 1 8 b0 6 1 1 8 b0 8 1 1 8";

    public static void main(String[] args) {
        newObject();
        feedCounts();
        feedTakesTheLowBytes();
        feedRefuses();
        textsWithoutFault();
        firstFaultOfForm();
        faultsOfNumbers();
        faultsOfGround();
        faultsOfNumber();
        faultDrawsNothing();
        drawGoesOnBehind();
        CHECK.end();
    }

    private static void newObject() {
        PaperTown town = new PaperTown();
        for (int what = 0; what <= 13; what++) {
            CHECK.due("new: count " + what, town.count(what), 0);
        }
        for (int c = 0; c < 320; c++) {
            CHECK.due("new: cell " + c, town.cell(c % 20, c / 20), PaperTown.NONE);
        }
        CHECK.due("new: place", town.place(), PaperTown.NONE);
        CHECK.due("new: lot", town.lot(0, 0), PaperTown.UNKNOWN);
        CHECK.due("new: told", town.told(0, 0), PaperTown.UNKNOWN);
        CHECK.due("new: vacate", town.vacate(0), PaperTown.UNKNOWN);
        CHECK.due("new: rate", town.rate(1), 0);
        CHECK.due("new: halt", town.halt(1, 1), 0);
        CHECK.due("new: bond", town.bond(1, 1), 0);
    }

    private static void feedCounts() {
        PaperTown town = new PaperTown();
        int all = 0;
        for (int n = 1; n <= 8; n++) {
            all += n;
            CHECK.due("feed " + n, town.feed(n, 0x2020202020202020L), all);
            CHECK.due("bytes", town.count(10), all);
        }
        CHECK.due("blanks draw nothing", town.draw(), 0);
        CHECK.due("empty then", town.count(10), 0);
    }

    private static void feedTakesTheLowBytes() {
        PaperTown town = new PaperTown();
        town.feed(3, 0x7878787878673020L); // "g0 " behind five x
        town.feed(5, 0xffffff3020312032L); // "0 1 2"
        CHECK.due("low bytes, highest first", town.draw(), 1);
        CHECK.due("high", town.lot(0, 0), 4);
        CHECK.due("second row", town.cell(0, 1), 0);
    }

    private static void feedRefuses() {
        PaperTown town = new PaperTown();
        CHECK.due("feed 0", town.feed(0, 32), PaperTown.OUTSIDE);
        CHECK.due("feed 9", town.feed(9, 32), PaperTown.OUTSIDE);
        CHECK.due("feed -1", town.feed(-1, 32), PaperTown.OUTSIDE);
        CHECK.due("feed least", town.feed(Integer.MIN_VALUE, 32), PaperTown.OUTSIDE);
        CHECK.due("feed most", town.feed(Integer.MAX_VALUE, 32), PaperTown.OUTSIDE);
        Check.type(town, " ".repeat(199));
        CHECK.due("199", town.count(10), 199);
        CHECK.due("two more", town.feed(2, 0x2020), PaperTown.FULL);
        CHECK.due("still 199", town.count(10), 199);
        CHECK.due("one more", town.feed(1, 'x'), 200);
        CHECK.due("full", town.feed(1, 32), PaperTown.FULL);
        CHECK.due("outside ahead of full", town.feed(9, 32), PaperTown.OUTSIDE);
        CHECK.due("the 200th byte is read", town.draw(), -11);
        CHECK.due("the 200th byte", town.place(), 199);
        CHECK.due("room again", town.feed(8, 0), 8);
    }

    private static void textsWithoutFault() {
        good("", 0);
        good("   ", 0);
        good("b0 0 1 1 1", 1);
        good("  b  0   0 1 1  9  ", 9);
        good("b 00 00 01 01 02", 2);
        good("g0 0 1 1", 1);
        good("g 11 7 9 9", 1);
        good("s0 0 0 20", 0);
        good("s0 0 1 16", 0);
        good("s0 0 0 3 s2 0 1 3 s0 0 0 3", 0);
        good("b2 0 2 2 9 s0 2 0 20 b0 3 4 1 5 g0 0 2 2", 15);
        good("b19 15 1 1 1", 1);
        good(FORTY, 40);
        good("s0 0 0 1 ".repeat(12), 0);
    }

    private static void firstFaultOfForm() {
        bad("B0 0 1 1 1", 1, 0);
        bad("1", 1, 0);
        bad("123", 1, 0);
        bad("\0", 1, 0);
        bad("b", 1, 1);
        bad("b ", 1, 2);
        bad("bb", 1, 1);
        bad("b0 0 1 1", 1, 8);
        bad("b0 0 1 1 ", 1, 9);
        bad("s0 0 0", 1, 6);
        bad("g0 0 1", 1, 6);
        bad("b0,0 1 1 1", 1, 2);
        bad("b-1 0 1 1 1", 1, 1);
        bad("b\t0 0 1 1 1", 1, 1);
        bad("b0 0 1 1 1 1", 1, 11);
        bad("b0 0 1 1 1 100", 1, 11);
        bad("b0 0 1 1 1x", 1, 10);
        bad("b0 0 1 1 1s0 1 0 1", 1, 10);
        bad("b0 0 1 1 1 \u00ff", 1, 11);
        bad("b0 0 1 1 1 b0 1 1 1 1 x", 1, 22);
        bad("b1x", 1, 2);
        bad("b1 x", 1, 3);
        bad("b0 0 1 1 1 s0 0 1 1 1 ", 3, 11);
    }

    private static void faultsOfNumbers() {
        bad("b20 0 1 1 1", 2, 1);
        bad("b0 16 1 1 1", 2, 3);
        bad("b0 0 0 1 1", 2, 5);
        bad("b0 0 10 1 1", 2, 5);
        bad("b0 0 1 0 1", 2, 7);
        bad("b0 0 1 10 1", 2, 7);
        bad("b0 0 1 1 0", 2, 9);
        bad("b0 0 1 1 10", 2, 9);
        bad("s20 0 0 1", 2, 1);
        bad("s0 16 0 1", 2, 3);
        bad("s0 0 2 1", 2, 5);
        bad("s0 0 0 0", 2, 7);
        bad("s0 0 0 21", 2, 7);
        bad("g20 0 1 1", 2, 1);
        bad("g0 16 1 1", 2, 3);
        bad("g0 0 0 1", 2, 5);
        bad("g0 0 10 1", 2, 5);
        bad("g0 0 1 0", 2, 7);
        bad("g0 0 1 10", 2, 7);
        bad("b000 0 1 1 1", 2, 1);
        bad("b0 0 1 1 001", 2, 9);
        bad("s0 0 0 4294967297", 2, 7);
        bad("b99x", 2, 1);
        bad("b100", 2, 1);
        bad("b19 0 2 1 999", 2, 10);
    }

    private static void faultsOfGround() {
        bad("b19 0 2 1 1", 3, 0);
        bad("b12 0 3 1 3", 3, 0);
        bad("b0 15 1 2 1", 3, 0);
        bad("g12 0 9 1", 3, 0);
        bad("g0 8 1 9", 3, 0);
        bad("s1 0 0 20", 3, 0);
        bad("s0 0 1 17", 3, 0);
        bad("s0 1 1 16", 3, 0);
        bad("b0 0 1 1 1 b0 0 1 1 1", 3, 11);
        bad("b0 0 2 2 2 g3 1 1 1", 3, 11);
        bad("b0 0 1 1 1 s0 0 0 3", 3, 11);
        bad("g2 2 1 1 s0 2 0 3", 3, 9);
        bad("s0 0 0 3 b2 0 1 1 1", 3, 9);
        bad("s0 0 0 3 g2 0 1 1", 3, 9);
        bad("  b19 0 2 1 1x", 3, 2);
        bad("b19 0 2 1 1 1", 3, 0);
        bad("b19 0 2 1", 1, 9);
    }

    private static void faultsOfNumber() {
        bad(FORTY + " b0 10 1 1 1", 4, 55);
        bad(FORTY + " g0 10 1 1", 4, 55);
        bad("b0 10 1 1 9 " + FORTY, 4, 45);
        bad(FORTY + " b0 0 1 1 1", 3, 55);
        bad(FORTY + " g19 10 2 1", 3, 55);
        bad("s0 0 0 1 ".repeat(12) + "s9 9 0 1", 4, 108);
        bad("s0 0 0 1 ".repeat(12) + "s1 0 0 20", 3, 108);
        PaperTown town = Check.town(FORTY);
        Check.type(town, " g0 10 1 1");
        CHECK.due("the 41st lot", town.draw(), -14);
        CHECK.due("its letter", town.place(), 1);
        Check.type(town, "s0 10 0 1");
        CHECK.due("a street is still free", town.draw(), 40);
        CHECK.due("no fault any more", town.place(), PaperTown.NONE);
    }

    private static void faultDrawsNothing() {
        Check.Story drawn = town -> {
            Check.type(town, "b0 0 1 1 2 s0 1 0 4 s0 5 0 4 g9 0 2 2");
            town.draw();
            town.vacate(1);
        };
        Check.Story faulty = town -> {
            Check.type(town, "b0 8 1 1 3 g5 8 2 2 s0 1 0 9 s3 1 1 6 x");
            CHECK.due("faulty", town.draw(), -11);
            CHECK.due("its byte", town.place(), 38);
            CHECK.due("empty", town.draw(), 3);
        };
        boolean same = Check.state(drawn).equals(Check.state(drawn, faulty));
        CHECK.due("nothing drawn", same ? 1 : 0, 1);
        PaperTown town = Check.toldTown(drawn, faulty);
        Check.type(town, "b0 8 1 1 1 s3 1 1 6");
        CHECK.due("numbered on", town.draw(), 4);
        CHECK.due("lot 3", town.cell(0, 8), 3);
        CHECK.due("street 0 stays", town.cell(3, 1), 100);
        CHECK.due("street 2", town.cell(3, 2), 102);
        CHECK.due("vacated one stays", town.cell(3, 5), 201);
        CHECK.due("street 2 below", town.cell(3, 6), 102);
    }

    private static void drawGoesOnBehind() {
        PaperTown town = Check.town("b0 0 1 1 2 s5 5 0 5");
        town.vacate(0);
        Check.type(town, "b7 5 1 1 1");
        CHECK.due("a vacated place stays drawn on", town.draw(), -13);
        Check.type(town, "s7 5 1 2");
        CHECK.due("a street may cross it", town.draw(), 2);
        CHECK.due("the cell is of the first", town.cell(7, 5), 200);
        CHECK.due("the next one is its own", town.cell(7, 6), 101);
    }

    private static void good(String text, int lots) {
        PaperTown town = new PaperTown();
        Check.type(town, text);
        CHECK.due("draw '" + text + "'", town.draw(), lots);
        CHECK.due("place '" + text + "'", town.place(), PaperTown.NONE);
        CHECK.due("bytes '" + text + "'", town.count(10), 0);
    }

    private static void bad(String text, int fault, int at) {
        PaperTown town = new PaperTown();
        Check.type(town, text);
        CHECK.due("draw '" + text + "'", town.draw(), -10 - fault);
        CHECK.due("place '" + text + "'", town.place(), at);
        CHECK.due("place again '" + text + "'", town.place(), at);
        for (int c = 0; c < 320; c++) {
            CHECK.due("cell " + c + " '" + text + "'", town.cell(c % 20, c / 20), PaperTown.NONE);
        }
        CHECK.due("lots '" + text + "'", town.count(0), 0);
        CHECK.due("streets '" + text + "'", town.count(1), 0);
        CHECK.due("bytes '" + text + "'", town.count(10), 0);
    }
}
