/** Promises 5 to 8: cell, lot, vacate, halt. */
public final class PlatTest {
    private static final Check CHECK = new Check();

    public static void main(String[] args) {
        cells();
        lotsAsDrawn();
        lotRefuses();
        worthByHalt();
        worthByStreet();
        worthByNeighbours();
        vacateToOneSide();
        vacateToTwoSides();
        vacateOwnCellsOnly();
        vacateAtTheCorners();
        vacateRefuses();
        haltMoves();
        CHECK.end();
    }

    private static void cells() {
        PaperTown town = Check.town("b1 1 2 3 2 g6 1 2 2 s0 4 0 20 s9 0 1 10");
        CHECK.due("first", town.cell(1, 1), 0);
        CHECK.due("first, last cell", town.cell(2, 3), 0);
        CHECK.due("second", town.cell(3, 1), 1);
        CHECK.due("second, last cell", town.cell(4, 3), 1);
        CHECK.due("grass beside", town.cell(5, 1), PaperTown.NONE);
        CHECK.due("gift", town.cell(7, 2), 2);
        CHECK.due("street", town.cell(0, 4), 100);
        CHECK.due("street's end", town.cell(19, 4), 100);
        CHECK.due("crossing", town.cell(9, 4), 100);
        CHECK.due("second street", town.cell(9, 5), 101);
        CHECK.due("second street's end", town.cell(9, 9), 101);
        CHECK.due("behind it", town.cell(9, 10), PaperTown.NONE);
        CHECK.due("corner", town.cell(19, 15), PaperTown.NONE);
        CHECK.due("x 20", town.cell(20, 0), PaperTown.OUTSIDE);
        CHECK.due("y 16", town.cell(0, 16), PaperTown.OUTSIDE);
        CHECK.due("x -1", town.cell(-1, 5), PaperTown.OUTSIDE);
        CHECK.due("y -1", town.cell(5, -1), PaperTown.OUTSIDE);
        CHECK.due("far", town.cell(Integer.MAX_VALUE, Integer.MIN_VALUE), PaperTown.OUTSIDE);
        town.vacate(0);
        CHECK.due("vacated", town.cell(0, 4), 200);
        CHECK.due("vacated beside a lot", town.cell(1, 4), 200);
        CHECK.due("vacated crossing", town.cell(9, 4), 200);
        CHECK.due("the other one is not", town.cell(9, 5), 101);
    }

    private static void lotsAsDrawn() {
        PaperTown town = Check.town("b4 2 2 3 2 g10 9 3 1");
        int[][] due = {
            {12, -1, 0, 120 + 200 / 7, -1, 0, -1, 0, 44, -1},
            {12, -1, 0, 120 + 200 / 9, -1, 0, -1, 0, 46, -1},
            {6, -1, 1, 60 + 200 / 20, -1, 0, -1, 0, 190, -1}};
        for (int l = 0; l < due.length; l++) {
            for (int what = 0; what < due[l].length; what++) {
                CHECK.due("lot " + l + ", " + what, town.lot(l, what), due[l][what]);
            }
        }
        CHECK.due("area of all", town.count(12), 30);
    }

    private static void lotRefuses() {
        PaperTown town = Check.town("b4 2 2 3 2");
        CHECK.due("lot -1", town.lot(-1, 0), PaperTown.UNKNOWN);
        CHECK.due("lot 2", town.lot(2, 0), PaperTown.UNKNOWN);
        CHECK.due("lot least", town.lot(Integer.MIN_VALUE, 0), PaperTown.UNKNOWN);
        CHECK.due("unknown ahead of outside", town.lot(2, 10), PaperTown.UNKNOWN);
        CHECK.due("what 10", town.lot(1, 10), PaperTown.OUTSIDE);
        CHECK.due("what -1", town.lot(1, -1), PaperTown.OUTSIDE);
    }

    private static void worthByHalt() {
        PaperTown town = Check.town("g5 5 2 2");
        CHECK.due("from 0", town.lot(0, 3), 80 + 200 / 11);
        town.halt(5, 5);
        CHECK.due("on its first cell", town.lot(0, 3), 80 + 200);
        town.halt(6, 6);
        CHECK.due("on its last cell", town.lot(0, 3), 80 + 200 / 3);
        town.halt(19, 15);
        CHECK.due("from the corner", town.lot(0, 3), 80 + 200 / 25);
        town.halt(0, 15);
        CHECK.due("from the left below", town.lot(0, 3), 80 + 200 / 16);
    }

    private static void worthByStreet() {
        worthWithStreet("g5 5 2 2 s4 4 0 1", 0, 0);
        worthWithStreet("g5 5 2 2 s5 4 0 1", 30, 4);
        worthWithStreet("g5 5 2 2 s6 4 0 1", 30, 4);
        worthWithStreet("g5 5 2 2 s7 4 0 1", 0, 0);
        worthWithStreet("g5 5 2 2 s4 6 0 1", 30, 4);
        worthWithStreet("g5 5 2 2 s7 5 0 1", 30, 4);
        worthWithStreet("g5 5 2 2 s5 7 0 1", 30, 4);
        worthWithStreet("g5 5 2 2 s7 7 0 1", 0, 0);
        worthWithStreet("g5 5 2 2 s4 7 0 1", 0, 0);
        PaperTown town = Check.town("g5 5 2 2 s5 4 0 2 s7 5 1 2");
        CHECK.due("two streets", town.lot(0, 3), 80 + 18 + 30);
        town.vacate(0);
        CHECK.due("one is vacated", town.lot(0, 3), 120 + 18 + 30);
        town.vacate(1);
        CHECK.due("both are", town.lot(0, 3), 160 + 18);
        PaperTown edge = Check.town("g0 0 1 1 b19 1 1 1 1 s19 0 0 1");
        CHECK.due("no street round the edge", edge.lot(0, 3), 220);
        CHECK.due("a street at the edge", edge.lot(1, 3), 20 + 200 / 21 + 30);
    }

    private static void worthWithStreet(String text, int street, int cells) {
        PaperTown town = Check.town(text);
        CHECK.due("worth '" + text + "'", town.lot(0, 3), 80 + 18 + street);
        CHECK.due("vacate '" + text + "'", town.vacate(0), street / 30);
        CHECK.due("worth then '" + text + "'", town.lot(0, 3), 80 + 18 + 10 * cells / 2);
    }

    private static void worthByNeighbours() {
        // Around lot 0 stand 1 (above), 2 (left), 3 (at a corner), 4 (one cell off).
        PaperTown town = Check.town("g5 5 2 2 g5 4 1 1 g4 5 1 2 g7 7 1 1 g8 5 1 1");
        for (int l = 0; l < 5; l++) {
            town.person(0);
            town.give(l, l, 9999);
        }
        CHECK.due("nobody lives there", town.lot(0, 3), 98);
        Check.until(town, 365);
        CHECK.due("all live there", town.count(4), 5);
        CHECK.due("two beside", town.lot(0, 3), 98 + 30);
        CHECK.due("above: one beside", town.lot(1, 3), 20 + 200 / 10 + 15);
        CHECK.due("corner: none", town.lot(3, 3), 20 + 200 / 15);
        town.pass(1, 0);
        CHECK.due("one is left", town.lot(0, 3), 98 + 15);
    }

    private static void vacateToOneSide() {
        PaperTown town = Check.town("b2 2 3 1 2 s0 3 0 10");
        CHECK.due("six of ten", town.vacate(0), 6);
        CHECK.due("first", town.lot(0, 0), 6 + 6);
        CHECK.due("second", town.lot(1, 0), 6 + 6);
        CHECK.due("least cell stays", town.lot(0, 8), 42);
        CHECK.due("area of all", town.count(12), 24);
        CHECK.due("streets stay counted", town.count(1), 1);
    }

    private static void vacateToTwoSides() {
        // The street's cell (5, 5) has lots on all four sides, (5, 6) on two.
        PaperTown town = Check.town("g4 6 1 1 g6 5 1 2 g5 4 1 1 g4 5 1 1 g5 7 1 1 s5 5 1 2");
        CHECK.due("both", town.vacate(0), 2);
        CHECK.due("0: half of the lower one", town.lot(0, 0), 2 + 1);
        CHECK.due("1: half of each", town.lot(1, 0), 4 + 2);
        CHECK.due("2: half of the upper one", town.lot(2, 0), 2 + 1);
        CHECK.due("3: none", town.lot(3, 0), 2);
        CHECK.due("4: none", town.lot(4, 0), 2);
    }

    private static void vacateOwnCellsOnly() {
        PaperTown town = Check.town("b0 0 1 1 5 s0 1 0 3 s1 1 0 4 s0 1 0 2");
        CHECK.due("nothing of its own", town.vacate(2), 0);
        CHECK.due("still the first one's", town.cell(0, 1), 100);
        CHECK.due("two of its own", town.vacate(1), 2);
        CHECK.due("the crossing is not", town.lot(2, 0), 2);
        CHECK.due("its own", town.lot(3, 0), 4);
        CHECK.due("three of the first", town.vacate(0), 3);
        CHECK.due("the crossing then", town.lot(2, 0), 4);
        // What came from a street is no cell of the lot: the next street is not beside it.
        PaperTown rows = Check.town("b0 0 1 1 5 s0 1 0 5 s0 2 0 5");
        CHECK.due("beside", rows.vacate(0), 5);
        CHECK.due("beside what was vacated", rows.vacate(1), 0);
    }

    private static void vacateAtTheCorners() {
        PaperTown town = Check.town("s0 0 0 1 b1 0 1 1 1 s19 15 1 1 b19 14 1 1 1");
        CHECK.due("the first cell", town.vacate(0), 1);
        CHECK.due("it is vacated", town.cell(0, 0), 200);
        CHECK.due("the last cell", town.vacate(1), 1);
        CHECK.due("that one too", town.cell(19, 15), 201);
        CHECK.due("first lot", town.lot(0, 0), 4);
        CHECK.due("second lot", town.lot(1, 0), 4);
    }

    private static void vacateRefuses() {
        PaperTown town = Check.town("s0 1 0 3 s0 1 0 3");
        CHECK.due("-1", town.vacate(-1), PaperTown.UNKNOWN);
        CHECK.due("2", town.vacate(2), PaperTown.UNKNOWN);
        CHECK.due("100", town.vacate(100), PaperTown.UNKNOWN);
        CHECK.due("0", town.vacate(0), 0);
        CHECK.due("0 again", town.vacate(0), PaperTown.NOT);
        CHECK.due("1", town.vacate(1), 0);
        CHECK.due("1 again, without cells", town.vacate(1), PaperTown.NOT);
    }

    private static void haltMoves() {
        PaperTown town = new PaperTown();
        CHECK.due("first", town.halt(3, 2), 0);
        CHECK.due("count 13", town.count(13), 43);
        CHECK.due("second", town.halt(19, 15), 43);
        CHECK.due("x 20", town.halt(20, 0), PaperTown.OUTSIDE);
        CHECK.due("y 16", town.halt(0, 16), PaperTown.OUTSIDE);
        CHECK.due("x -1", town.halt(-1, 0), PaperTown.OUTSIDE);
        CHECK.due("y -1", town.halt(0, -1), PaperTown.OUTSIDE);
        CHECK.due("refused, it stays", town.halt(0, 0), 319);
    }
}
