/** Promises 1 to 4 and the terms of the plat, at their edges: one test for each sentence that names one. */
public final class TextEdgesTest {
    private static final Check CHECK = new Check();
    private static final int LEAST = Integer.MIN_VALUE, MOST = Integer.MAX_VALUE;
    private static final String FORTY = "b0 0 1 1 9 b0 1 1 1 9 b0 2 1 1 9 b0 3 1 1 9 b0 4 1 1 4";
    private static final String THIRTY_NINE = "b0 0 1 1 9 b0 1 1 1 9 b0 2 1 1 9 b0 3 1 1 9 b0 4 1 1 3";

    public static void main(String[] args) {
        newObjectIsEmpty();
        newObjectsShareNothing();
        feedTakesOneToEight();
        feedTakesTheLowBytes();
        feedTakesAnyByte();
        feedFillsTwoHundred();
        feedOfTwoHundredByEachWidth();
        fullTextIsReadToItsEnd();
        drawEmptiesTheText();
        drawOfNothing();
        placeIsOfTheLatestDraw();
        bytesThatCanStand();
        figures();
        blanks();
        endOfTheText();
        boundsOfBlocks();
        boundsOfStreets();
        boundsOfGifts();
        leastFaultOfAByte();
        firstByteWithAFault();
        blocksAtTheEdge();
        streetsAtTheEdge();
        giftsAtTheEdge();
        lotsMeetLots();
        lotsMeetStreets();
        streetsCross();
        fortyLots();
        twelveStreets();
        faultOfEachKindDrawsNothing();
        numbersGoOn();
        CHECK.end();
    }

    // ---- a new object, feed

    private static void newObjectIsEmpty() {
        PaperTown town = new PaperTown();
        CHECK.due("first cell", town.cell(0, 0), PaperTown.NONE);
        CHECK.due("last cell", town.cell(19, 15), PaperTown.NONE);
        CHECK.due("no lot", town.lot(0, 0), PaperTown.UNKNOWN);
        CHECK.due("no street", town.vacate(0), PaperTown.UNKNOWN);
        CHECK.due("no person", town.told(0, 0), PaperTown.UNKNOWN);
        CHECK.due("no title", town.title(0, 0), PaperTown.UNKNOWN);
        CHECK.due("no bytes", town.count(10), 0);
        CHECK.due("now", town.count(3), 0);
        CHECK.due("halt", town.count(13), 0);
        CHECK.due("rate", town.rate(0), 0);
        CHECK.due("place", town.place(), PaperTown.NONE);
        CHECK.due("first number of a person", town.person(0), 0);
    }

    private static void newObjectsShareNothing() {
        PaperTown old = Check.town("b0 0 1 1 1 s0 1 0 1");
        old.person(5);
        old.rate(5);
        old.halt(5, 5);
        old.days(5);
        old.feed(1, 'x');
        PaperTown town = new PaperTown();
        for (int what = 0; what <= 13; what++) {
            CHECK.due("count " + what + " of the next", town.count(what), 0);
        }
        CHECK.due("cell of the next", town.cell(0, 0), PaperTown.NONE);
        CHECK.due("rate of the next", town.rate(1), 0);
        CHECK.due("the first one's stays", old.rate(1), 5);
    }

    private static void feedTakesOneToEight() {
        PaperTown town = new PaperTown();
        for (int n : new int[] {LEAST, LEAST + 1, -8, -1, 0, 9, 10, 64, MOST}) {
            CHECK.due("feed " + n, town.feed(n, 0x2020202020202020L), PaperTown.OUTSIDE);
            CHECK.due("bytes", town.count(10), 0);
        }
        CHECK.due("feed 1", town.feed(1, 32), 1);
        CHECK.due("feed 8", town.feed(8, 0x2020202020202020L), 9);
        CHECK.due("feed 9 behind", town.feed(9, 0x2020202020202020L), PaperTown.OUTSIDE);
        CHECK.due("bytes behind", town.count(10), 9);
    }

    /** An x among blanks is a fault at its own byte, and bytes above the n lowest are none of the text. */
    private static void feedTakesTheLowBytes() {
        for (int n = 1; n <= 8; n++) {
            for (int k = 0; k < n; k++) {
                int shift = 8 * (n - 1 - k);
                long blanksAndX = 0x2020202020202020L & ~(255L << shift) | (long) 'x' << shift;
                long above = n == 8 ? 0 : ~0L << 8 * n;
                PaperTown town = new PaperTown();
                CHECK.due("feed " + n, town.feed(n, blanksAndX | above), n);
                CHECK.due("x at " + k + " of " + n, town.draw(), -11);
                CHECK.due("place of x at " + k + " of " + n, town.place(), k);
            }
            PaperTown town = new PaperTown();
            town.feed(n, n == 8 ? 0x2020202020202020L : ~0L << 8 * n | 0x2020202020202020L >>> 64 - 8 * n);
            CHECK.due("blanks below others, " + n, town.draw(), 0);
        }
    }

    private static void feedTakesAnyByte() {
        long[] words = {Long.MIN_VALUE, Long.MAX_VALUE, -1L, 0L};
        for (long word : words) {
            for (int n = 1; n <= 8; n++) {
                PaperTown town = new PaperTown();
                CHECK.due("feed " + n + " of " + word, town.feed(n, word), n);
                CHECK.due("draw " + n + " of " + word, town.draw(), -11);
                CHECK.due("place " + n + " of " + word, town.place(), 0);
            }
        }
    }

    private static void feedFillsTwoHundred() {
        PaperTown town = new PaperTown();
        for (int i = 1; i <= 25; i++) {
            CHECK.due("feed", town.feed(8, 0x2020202020202020L), 8 * i);
        }
        for (int n = 1; n <= 8; n++) {
            CHECK.due("full, " + n, town.feed(n, 'x'), PaperTown.FULL);
        }
        CHECK.due("outside ahead of full, 0", town.feed(0, 'x'), PaperTown.OUTSIDE);
        CHECK.due("outside ahead of full, 9", town.feed(9, 'x'), PaperTown.OUTSIDE);
        CHECK.due("bytes", town.count(10), 200);
        CHECK.due("nothing came in", town.draw(), 0);
        CHECK.due("room again", town.feed(8, 0x2020202020202020L), 8);
    }

    private static void feedOfTwoHundredByEachWidth() {
        for (int n = 1; n <= 8; n++) {
            PaperTown town = new PaperTown();
            Check.type(town, " ".repeat(201 - n));
            CHECK.due("one too many, " + n, town.feed(n, 'x'), PaperTown.FULL);
            CHECK.due("nothing of it came in, " + n, town.count(10), 201 - n);
            CHECK.due("blanks alone, " + n, town.draw(), 0);
            Check.type(town, " ".repeat(200 - n));
            CHECK.due("just so many, " + n, town.feed(n, 0x2020202020202020L), 200);
        }
    }

    private static void fullTextIsReadToItsEnd() {
        good(" ".repeat(190) + "b0 0 1 1 9", 9);
        good("b0 0 1 1 9" + " ".repeat(190), 9);
        bad(" ".repeat(190) + "b0 0 1 1 0", 2, 199);
        bad(" ".repeat(192) + "b0 0 1 1", 1, 200);
        bad(" ".repeat(199) + "b", 1, 200);
        bad(" ".repeat(199) + "1", 1, 199);
        bad("b" + " ".repeat(199), 1, 200);
        bad("b" + "1".repeat(199), 2, 1);
        bad("b0 0 1 1 1" + " ".repeat(189) + "2", 1, 199);
    }

    // ---- draw, place

    private static void drawEmptiesTheText() {
        PaperTown town = Check.town("b0 0 1 1 1");
        CHECK.due("without a fault", town.count(10), 0);
        Check.type(town, "b0 0 1 1 1");
        CHECK.due("meets itself", town.draw(), -13);
        CHECK.due("with a fault", town.count(10), 0);
        CHECK.due("nothing is left of it", town.draw(), 1);
        CHECK.due("the next text begins at 0", town.feed(1, 'x'), 1);
        CHECK.due("its fault", town.draw(), -11);
        CHECK.due("at 0", town.place(), 0);
    }

    private static void drawOfNothing() {
        PaperTown town = new PaperTown();
        CHECK.due("nothing there yet", town.draw(), 0);
        CHECK.due("no fault", town.place(), PaperTown.NONE);
        PaperTown full = Check.town(FORTY);
        CHECK.due("forty there", full.draw(), 40);
        CHECK.due("no fault of it", full.place(), PaperTown.NONE);
        full.feed(1, ' ');
        CHECK.due("a blank", full.draw(), 40);
    }

    private static void placeIsOfTheLatestDraw() {
        PaperTown town = new PaperTown();
        CHECK.due("none was drawn", town.place(), PaperTown.NONE);
        town.feed(1, 'x');
        CHECK.due("not drawn yet", town.place(), PaperTown.NONE);
        town.draw();
        CHECK.due("the first byte", town.place(), 0);
        town.feed(2, 0x2078);
        CHECK.due("the next is not drawn yet", town.place(), 0);
        town.draw();
        CHECK.due("the second byte", town.place(), 1);
        Check.type(town, "g0 0 1 1");
        town.draw();
        CHECK.due("no fault", town.place(), PaperTown.NONE);
        town.feed(1, 'x');
        town.draw();
        CHECK.due("a fault again", town.place(), 0);
        town.draw();
        CHECK.due("an empty text has none", town.place(), PaperTown.NONE);
    }

    // ---- the text: bytes, figures, blanks, the end

    private static boolean isFigure(int c) {
        return c >= '0' && c <= '9';
    }

    /** Every byte there is, at a letter's place, behind a letter, behind a number and behind an order. */
    private static void bytesThatCanStand() {
        for (int c = 0; c < 256; c++) {
            String s = String.valueOf((char) c);
            boolean letter = c == 'b' || c == 's' || c == 'g';
            if (c == ' ') {
                good(s, 0);
                good("g0 0 1 1" + s, 1);
                good("g0 0 1 1 " + s, 1);
            } else {
                bad(s, 1, letter ? 1 : 0);
                bad("g0 0 1 1" + s, isFigure(c) ? 2 : 1, isFigure(c) ? 7 : 8);
                bad("g0 0 1 1 " + s, 1, letter ? 10 : 9);
            }
            boolean numberOrBlank = isFigure(c) || c == ' ';
            bad("b" + s, 1, numberOrBlank ? 2 : 1);
            bad("b " + s, 1, numberOrBlank ? 3 : 2);
            bad("b1" + s, 1, numberOrBlank ? 3 : 2);
            bad("b1 " + s, 1, numberOrBlank ? 4 : 3);
            bad("b10" + s, isFigure(c) ? 2 : 1, isFigure(c) ? 1 : c == ' ' ? 4 : 3);
        }
    }

    private static void figures() {
        good("b0 0 1 1 1", 1);
        good("b00 00 01 01 01", 1);
        good("b09 15 09 1 01", 1);
        bad("b000 0 1 1 1", 2, 1);
        bad("b0 000 1 1 1", 2, 3);
        bad("b0 0 001 1 1", 2, 5);
        bad("b0 0 1 001 1", 2, 7);
        bad("b0 0 1 1 001", 2, 9);
        bad("s0 0 000 1", 2, 5);
        bad("s0 0 0 001", 2, 7);
        bad("g0 0 1 001", 2, 7);
        bad("b100 0 1 1 1", 2, 1);
        bad("b0 0 1 1 4294967297", 2, 9);
        bad("b0 0 1 1 18446744073709551617", 2, 9);
        bad("b 0   0 1 1    001 ", 2, 15);
    }

    private static void blanks() {
        good("b0 0 1 1 1 s0 1 0 1 g0 2 1 1", 2);
        good("   b   0   0   1   1   1   s   0   1   0   1   g   0   2   1   1   ", 2);
        bad("b0 0 1 1 1s0 1 0 1", 1, 10);
        bad("s0 1 0 1g0 2 1 1", 1, 8);
        bad("g0 2 1 1b0 0 1 1 1", 1, 8);
        bad("b0b0 1 1 1", 1, 2);
        // Without a blank two numbers are one, and another one is missing at the end.
        bad("b01 0 1 1", 1, 9);
        bad("s00 0 1", 1, 7);
        for (char c : new char[] {0, 9, 10, 13, ',', '-', '+', '.', 160, 255}) {
            bad("b0" + c + "0 1 1 1", 1, 2);
            bad("b0 " + c + "0 1 1 1", 1, 3);
        }
    }

    /** Each beginning of an order has the fault at its end, till the last number is there. */
    private static void endOfTheText() {
        for (String order : new String[] {"b 0  0 1 1 1", "s 0  0 0 1", "g 0  0 1 1"}) {
            for (int n = 1; n < order.length(); n++) {
                bad(order.substring(0, n), 1, n);
                bad("  " + order.substring(0, n), 1, n + 2);
            }
            good(order, order.charAt(0) == 's' ? 0 : 1);
        }
        good("", 0);
    }

    // ---- the bounds of the numbers

    private static void boundsOfBlocks() {
        good("b0 0 1 1 1", 1);
        good("b19 0 1 1 1", 1);
        bad("b20 0 1 1 1", 2, 1);
        bad("b99 0 1 1 1", 2, 1);
        good("b0 15 1 1 1", 1);
        bad("b0 16 1 1 1", 2, 3);
        bad("b0 99 1 1 1", 2, 3);
        bad("b0 0 0 1 1", 2, 5);
        bad("b0 0 00 1 1", 2, 5);
        good("b0 0 9 1 1", 1);
        bad("b0 0 10 1 1", 2, 5);
        bad("b0 0 1 0 1", 2, 7);
        good("b0 0 1 9 1", 1);
        bad("b0 0 1 10 1", 2, 7);
        bad("b0 0 1 1 0", 2, 9);
        good("b0 0 1 1 9", 9);
        bad("b0 0 1 1 10", 2, 9);
        bad("b0 0 1 1 99", 2, 9);
    }

    private static void boundsOfStreets() {
        good("s0 0 0 1", 0);
        good("s19 0 0 1", 0);
        bad("s20 0 0 1", 2, 1);
        good("s0 15 0 1", 0);
        bad("s0 16 0 1", 2, 3);
        good("s0 0 1 1", 0);
        bad("s0 0 2 1", 2, 5);
        bad("s0 0 10 1", 2, 5);
        bad("s0 0 0 0", 2, 7);
        bad("s0 0 1 0", 2, 7);
        good("s0 0 0 20", 0);
        bad("s0 0 0 21", 2, 7);
        bad("s0 0 1 21", 2, 7);
        bad("s0 0 0 99", 2, 7);
    }

    private static void boundsOfGifts() {
        good("g0 0 1 1", 1);
        good("g19 0 1 1", 1);
        bad("g20 0 1 1", 2, 1);
        good("g0 15 1 1", 1);
        bad("g0 16 1 1", 2, 3);
        bad("g0 0 0 1", 2, 5);
        good("g0 0 9 1", 1);
        bad("g0 0 10 1", 2, 5);
        bad("g0 0 1 0", 2, 7);
        good("g0 0 1 9", 1);
        bad("g0 0 1 10", 2, 7);
    }

    // ---- which fault, and where

    private static void leastFaultOfAByte() {
        bad("100", 1, 0);
        bad("b0 0 1 1 1 100", 1, 11);
        bad("99", 1, 0);
        bad(FORTY + " b19 0 2 1 1", 3, 55);
        bad(FORTY + " g0 0 1 1", 3, 55);
        bad("s0 0 0 1 ".repeat(12) + "s19 0 0 2", 3, 108);
        bad("s1 0 0 1 ".repeat(12) + "g0 0 1 1 s0 0 0 1", 3, 117);
    }

    private static void firstByteWithAFault() {
        bad("b20 16 0 0 0", 2, 1);
        bad("b0 16 x", 2, 3);
        bad("b0 x 16", 1, 3);
        bad("b20x", 2, 1);
        bad("b0 0 1 1 10s", 2, 9);
        bad("x b20 0 1 1 1", 1, 0);
        bad("b20 0 1 1 1 x", 2, 1);
        // Faults of the ground come behind all of an order, and stand at its letter.
        bad("b19 15 9 9 10", 2, 11);
        bad("b19 15 9 9", 1, 10);
        bad("b19 15 9 9 x", 1, 11);
        bad("b19 15 9 9 9", 3, 0);
        bad("s0 0 1 20 x", 3, 0);
        bad("b19 0 2 1 1 b20 0 1 1 1", 3, 0);
        bad("g0 0 1 1 g0 0 1 1 g0 0 1 1", 3, 9);
        bad("g0 0 1 1 b0 1 1 1 0 g0 0 1 1", 2, 18);
        bad(FORTY + " g9 9 1 1 x", 4, 55);
        bad(FORTY + " x g9 9 1 1", 1, 55);
    }

    // ---- all of it on the grass

    private static void blocksAtTheEdge() {
        good("b11 0 1 1 9", 9);
        bad("b12 0 1 1 9", 3, 0);
        good("b2 0 9 1 2", 2);
        bad("b3 0 9 1 2", 3, 0);
        good("b18 0 2 1 1", 1);
        bad("b19 0 2 1 1", 3, 0);
        good("b19 0 1 1 1", 1);
        bad("b19 0 1 1 2", 3, 0);
        bad("b0 0 9 1 3", 3, 0);
        bad("b0 0 9 9 9", 3, 0);
        good("b0 7 1 9 1", 1);
        bad("b0 8 1 9 1", 3, 0);
        good("b0 14 1 2 1", 1);
        bad("b0 15 1 2 1", 3, 0);
        good("b0 0 5 1 4", 4);
        bad("b0 0 7 1 3", 3, 0);
    }

    private static void streetsAtTheEdge() {
        good("s0 0 0 20", 0);
        bad("s1 0 0 20", 3, 0);
        good("s18 0 0 2", 0);
        bad("s19 0 0 2", 3, 0);
        good("s0 0 1 16", 0);
        bad("s0 0 1 17", 3, 0);
        bad("s0 1 1 16", 3, 0);
        good("s0 14 1 2", 0);
        bad("s0 15 1 2", 3, 0);
        good("s19 15 0 1 s19 15 1 1", 0);
        good("s0 15 0 20 s19 0 1 16", 0);
    }

    private static void giftsAtTheEdge() {
        good("g11 0 9 1", 1);
        bad("g12 0 9 1", 3, 0);
        good("g19 0 1 1", 1);
        bad("g19 0 2 1", 3, 0);
        good("g0 7 1 9", 1);
        bad("g0 8 1 9", 3, 0);
        good("g11 7 9 9", 1);
        bad("g19 15 2 2", 3, 0);
    }

    // ---- no two may have a cell in common

    /** A lot of 3 by 2 stands at (5, 5): round it there is room, up to its cells there is none. */
    private static void lotsMeetLots() {
        for (String first : new String[] {"b5 5 3 2 1 ", "g5 5 3 2 "}) {
            int at = first.length();
            good(first + "b3 5 2 2 1 b8 5 2 2 1 b5 4 3 1 1 b5 7 3 1 1", 5);
            good(first + "b4 4 1 1 1 b8 4 1 1 1 b4 7 1 1 1 b8 7 1 1 1", 5);
            bad(first + "b3 5 3 2 1", 3, at);
            bad(first + "g7 5 2 2", 3, at);
            bad(first + "g5 4 3 2", 3, at);
            bad(first + "b5 6 3 1 1", 3, at);
            bad(first + "b4 4 2 2 1", 3, at);
            bad(first + "g7 6 1 1", 3, at);
            bad(first + "b7 4 2 2 1", 3, at);
            bad(first + "g4 6 2 2", 3, at);
            bad(first + "b0 5 1 1 6", 3, at);
            good(first + "b0 5 1 1 5", 6);
            bad(first + "g4 4 5 4", 3, at);
            bad(first + "s5 0 1 6", 3, at);
            good(first + "s5 0 1 5", 1);
            bad(first + "s0 6 0 6", 3, at);
            good(first + "s0 6 0 5", 1);
            bad(first + "s7 6 0 1", 3, at);
        }
        PaperTown town = Check.town("g5 5 1 1");
        Check.type(town, "b5 5 1 1 1");
        CHECK.due("a lot of an earlier text", town.draw(), -13);
        Check.type(town, "b6 5 1 1 1");
        CHECK.due("beside it", town.draw(), 2);
    }

    private static void lotsMeetStreets() {
        bad("s5 5 0 4 b5 5 1 1 1", 3, 9);
        bad("s5 5 0 4 b8 5 1 1 1", 3, 9);
        good("s5 5 0 4 b9 5 1 1 1 b4 5 1 1 1", 2);
        bad("s5 5 1 4 g5 8 1 1", 3, 9);
        good("s5 5 1 4 g5 9 1 1 g5 4 1 1", 2);
        bad("s5 5 1 4 g4 4 3 3", 3, 9);
        PaperTown town = Check.town("s5 5 0 4 b5 4 1 1 1");
        town.vacate(0);
        Check.type(town, "b5 5 1 1 1");
        CHECK.due("vacated, of a lot: stays drawn on", town.draw(), -13);
        Check.type(town, "g8 5 1 1");
        CHECK.due("vacated, grass again: stays drawn on", town.draw(), -13);
        Check.type(town, "g9 5 1 1");
        CHECK.due("behind its end", town.draw(), 2);
    }

    private static void streetsCross() {
        PaperTown town = Check.town("s5 5 0 3 s6 4 1 3 s5 5 0 4 s5 5 0 1");
        CHECK.due("all four", town.count(1), 4);
        CHECK.due("of the first", town.cell(6, 5), 100);
        CHECK.due("above it", town.cell(6, 4), 101);
        CHECK.due("below it", town.cell(6, 6), 101);
        CHECK.due("the first one's end", town.cell(7, 5), 100);
        CHECK.due("the third one's own", town.cell(8, 5), 102);
        Check.type(town, "s8 4 1 3");
        CHECK.due("in a later text too", town.draw(), 0);
        CHECK.due("of the third", town.cell(8, 5), 102);
        CHECK.due("of the fifth", town.cell(8, 4), 104);
    }

    // ---- how many

    private static void fortyLots() {
        good(FORTY, 40);
        bad(FORTY + " b9 9 1 1 1", 4, 55);
        bad(FORTY + " g9 9 1 1", 4, 55);
        good(FORTY + " s9 9 0 1", 40);
        good(THIRTY_NINE + " g9 9 1 1", 40);
        good(THIRTY_NINE + " b9 9 1 1 1", 40);
        bad(THIRTY_NINE + " b9 9 1 1 2", 4, 55);
        PaperTown town = Check.town(THIRTY_NINE);
        Check.type(town, "b9 9 1 1 2");
        CHECK.due("two more in a later text", town.draw(), -14);
        CHECK.due("at its letter", town.place(), 0);
        Check.type(town, " g9 9 1 1");
        CHECK.due("one more", town.draw(), 40);
        CHECK.due("the last number", town.cell(9, 9), 39);
        Check.type(town, " g10 9 1 1");
        CHECK.due("none more", town.draw(), -14);
        CHECK.due("at its own letter", town.place(), 1);
        CHECK.due("no lot 40", town.lot(40, 0), PaperTown.UNKNOWN);
    }

    private static void twelveStreets() {
        good("s0 0 0 1 ".repeat(12), 0);
        bad("s0 0 0 1 ".repeat(13), 4, 108);
        PaperTown town = Check.town("s0 0 0 1 ".repeat(11));
        Check.type(town, "s9 9 0 1 s10 9 0 1");
        CHECK.due("two more in a later text", town.draw(), -14);
        CHECK.due("at the second one's letter", town.place(), 9);
        Check.type(town, "s9 9 0 1");
        CHECK.due("one more", town.draw(), 0);
        CHECK.due("the last number", town.cell(9, 9), 111);
        town.vacate(0);
        town.vacate(11);
        Check.type(town, "s10 9 0 1");
        CHECK.due("vacated ones count too", town.draw(), -14);
        Check.type(town, "g10 9 1 1");
        CHECK.due("a lot is still free", town.draw(), 1);
        CHECK.due("no street 12", town.vacate(12), PaperTown.UNKNOWN);
    }

    // ---- a text with a fault draws nothing, one without draws behind what is drawn

    private static void faultOfEachKindDrawsNothing() {
        Check.Story drawn = town -> {
            Check.type(town, "b1 0 1 1 9 b0 1 1 1 9 b0 2 1 1 9 s0 3 0 9 s0 4 0 9 g12 0 2 2");
            town.draw();
            town.vacate(1);
        };
        String good = "b0 8 1 1 3 g0 0 1 1 g19 15 1 1 s0 3 0 12 s3 4 1 2 ";
        String[] behind = {"x", "g20 0 1 1", "g0 8 1 1", "b10 9 1 1 8"};
        for (int k = 0; k < behind.length; k++) {
            int fault = k + 1;
            String text = good + behind[k];
            int at = good.length() + (fault == 2 ? 1 : 0);
            Check.Story faulty = town -> {
                Check.type(town, text);
                CHECK.due("draw with fault " + fault, town.draw(), -10 - fault);
                CHECK.due("place of fault " + fault, town.place(), at);
                town.draw();
            };
            boolean same = Check.state(drawn).equals(Check.state(drawn, faulty));
            CHECK.due("nothing drawn with fault " + fault, same ? 1 : 0, 1);
        }
        PaperTown town = Check.toldTown(drawn);
        Check.type(town, good);
        CHECK.due("without a fault it draws", town.draw(), 33);
    }

    private static void numbersGoOn() {
        PaperTown town = Check.town("g0 0 1 1 s0 1 0 2 b1 0 1 1 2 s0 2 0 2");
        CHECK.due("gift 0", town.cell(0, 0), 0);
        CHECK.due("lot 1", town.cell(1, 0), 1);
        CHECK.due("lot 2", town.cell(2, 0), 2);
        CHECK.due("street 0", town.cell(0, 1), 100);
        CHECK.due("street 1", town.cell(0, 2), 101);
        Check.type(town, "b9 9 1 1 2 x");
        town.draw();
        Check.type(town, "s9 8 0 2 b9 9 1 1 2");
        CHECK.due("two more", town.draw(), 5);
        CHECK.due("lot 3", town.cell(9, 9), 3);
        CHECK.due("lot 4", town.cell(10, 9), 4);
        CHECK.due("street 2", town.cell(9, 8), 102);
    }

    private static void good(String text, int lots) {
        PaperTown town = Check.town("");
        Check.type(town, text);
        CHECK.due("bytes of '" + text + "'", town.count(10), text.length());
        CHECK.due("draw '" + text + "'", town.draw(), lots);
        CHECK.due("place '" + text + "'", town.place(), PaperTown.NONE);
        CHECK.due("lots of '" + text + "'", town.count(0), lots);
    }

    private static void bad(String text, int fault, int at) {
        PaperTown town = new PaperTown();
        Check.type(town, text);
        CHECK.due("bytes of '" + text + "'", town.count(10), text.length());
        CHECK.due("draw '" + text + "'", town.draw(), -10 - fault);
        CHECK.due("place '" + text + "'", town.place(), at);
        CHECK.due("first cell of '" + text + "'", town.cell(0, 0), PaperTown.NONE);
        CHECK.due("no lots of '" + text + "'", town.count(0), 0);
        CHECK.due("no streets of '" + text + "'", town.count(1), 0);
    }
}
