/** Promises 5 to 8 and the terms of area, worth and vacated streets, at their edges. */
public final class PlatEdgesTest {
    private static final Check CHECK = new Check();
    private static final int LEAST = Integer.MIN_VALUE, MOST = Integer.MAX_VALUE;
    private static final String FORTY = "b0 0 1 1 9 b0 1 1 1 9 b0 2 1 1 9 b0 3 1 1 9 b0 4 1 1 4";

    public static void main(String[] args) {
        cellsOfTheGrass();
        cellsOfEachKind();
        lotsThatThereAre();
        whatOfALot();
        unknownLotAheadOfWhat();
        areaOfLots();
        leastCellOfLots();
        dayOnWhichItsOwnerGotIt();
        worthByTheStepsToTheHalt();
        worthByEachSide();
        worthCountsALotOnce();
        worthWithAllSidesLivedOn();
        worthIsNotRoundTheEdge();
        worthOfALotItselfLivedOn();
        worthByStreetsBeside();
        worthByAStreetOnce();
        worthByACrossing();
        streetsThatThereAre();
        vacatedOnce();
        vacatedWithoutCellsOfItsOwn();
        vacatedToSoManyLots();
        vacatedToTheLeastNumbers();
        vacatedGoesToNoLaterLot();
        vacatedIsNoCellOfALot();
        vacatedAllRoundALot();
        vacatedAtTheEdges();
        haltOnTheGrass();
        haltAnswersTheOneAhead();
        CHECK.end();
    }

    // ---- cell

    private static void cellsOfTheGrass() {
        // A lot in each corner shows that a cell outside is not taken for one of the next row.
        PaperTown town = Check.town("g0 0 1 1 g19 0 1 1 g0 15 1 1 g19 15 1 1 g0 1 1 1");
        CHECK.due("0, 0", town.cell(0, 0), 0);
        CHECK.due("19, 0", town.cell(19, 0), 1);
        CHECK.due("0, 15", town.cell(0, 15), 2);
        CHECK.due("19, 15", town.cell(19, 15), 3);
        int[][] outside = {{20, 0}, {-1, 1}, {0, 16}, {0, -1}, {19, 16}, {20, 15}, {19, -1}, {-1, 15}, {-20, 1},
            {-1, -1}, {20, 16}, {LEAST, 0}, {MOST, 0}, {0, LEAST}, {0, MOST}, {LEAST, LEAST}, {MOST, MOST},
            {0, 214748365}, {40, -1}};
        for (int[] at : outside) {
            CHECK.due("cell " + at[0] + ", " + at[1], town.cell(at[0], at[1]), PaperTown.OUTSIDE);
        }
    }

    private static void cellsOfEachKind() {
        PaperTown town = Check.town(FORTY);
        Check.type(town, "s0 9 0 1 s1 9 0 1 s2 9 0 1 s3 9 0 1 s4 9 0 1 s5 9 0 1 s6 9 0 1 s7 9 0 1 s8 9 0 1 "
            + "s9 9 0 1 s10 9 0 1 s11 9 0 1");
        town.draw();
        CHECK.due("grass", town.cell(12, 9), PaperTown.NONE);
        CHECK.due("the first lot", town.cell(0, 0), 0);
        CHECK.due("the last lot", town.cell(3, 4), 39);
        CHECK.due("the first street", town.cell(0, 9), 100);
        CHECK.due("the last street", town.cell(11, 9), 111);
        town.vacate(0);
        town.vacate(11);
        CHECK.due("the first, vacated", town.cell(0, 9), 200);
        CHECK.due("the last, vacated", town.cell(11, 9), 211);
        CHECK.due("the second is not", town.cell(1, 9), 101);
        CHECK.due("the last but one is not", town.cell(10, 9), 110);
    }

    // ---- lot

    private static void lotsThatThereAre() {
        PaperTown empty = new PaperTown();
        CHECK.due("none there yet", empty.lot(0, 0), PaperTown.UNKNOWN);
        CHECK.due("nor NONE", empty.lot(-1, 1), PaperTown.UNKNOWN);
        PaperTown one = Check.town("g3 3 1 1");
        CHECK.due("the only one, a gift", one.lot(0, 2), 1);
        CHECK.due("behind it", one.lot(1, 2), PaperTown.UNKNOWN);
        PaperTown town = Check.town(FORTY);
        CHECK.due("the first", town.lot(0, 8), 0);
        CHECK.due("the last", town.lot(39, 8), 83);
        CHECK.due("it is no gift", town.lot(39, 2), 0);
        for (int l : new int[] {LEAST, -40, -1, 40, 41, 100, MOST}) {
            CHECK.due("lot " + l, town.lot(l, 8), PaperTown.UNKNOWN);
        }
    }

    private static void whatOfALot() {
        PaperTown town = Check.town("b0 0 1 1 1");
        CHECK.due("0", town.lot(0, 0), 2);
        CHECK.due("9", town.lot(0, 9), PaperTown.NONE);
        for (int what : new int[] {LEAST, -10, -1, 10, 11, MOST}) {
            CHECK.due("what " + what, town.lot(0, what), PaperTown.OUTSIDE);
        }
    }

    private static void unknownLotAheadOfWhat() {
        PaperTown town = Check.town("b0 0 1 1 1");
        CHECK.due("1, 10", town.lot(1, 10), PaperTown.UNKNOWN);
        CHECK.due("-1, -1", town.lot(-1, -1), PaperTown.UNKNOWN);
        CHECK.due("0, 10", town.lot(0, 10), PaperTown.OUTSIDE);
    }

    private static void areaOfLots() {
        PaperTown town = Check.town("g0 0 1 1 g1 0 9 1 g0 1 1 9 g2 2 9 9");
        CHECK.due("the least", town.lot(0, 0), 2);
        CHECK.due("wide", town.lot(1, 0), 18);
        CHECK.due("high", town.lot(2, 0), 18);
        CHECK.due("the greatest", town.lot(3, 0), 162);
        CHECK.due("all", town.count(12), 200);
    }

    private static void leastCellOfLots() {
        PaperTown town = Check.town("g0 0 2 2 g19 15 1 1 b3 4 2 2 2");
        CHECK.due("first cell", town.lot(0, 8), 0);
        CHECK.due("last cell", town.lot(1, 8), 319);
        CHECK.due("first of a block", town.lot(2, 8), 83);
        CHECK.due("next of the block", town.lot(3, 8), 85);
    }

    private static void dayOnWhichItsOwnerGotIt() {
        PaperTown town = Check.town("b0 0 1 1 1 g5 5 1 1");
        town.person(0);
        CHECK.due("from the beginning", town.lot(0, 9), PaperTown.NONE);
        CHECK.due("a gift from the beginning", town.lot(1, 9), PaperTown.NONE);
        Check.buy(town, 0, 0, 1);
        town.give(1, 0, 0);
        CHECK.due("on day 0", town.lot(0, 9), 0);
        CHECK.due("a gift on day 0", town.lot(1, 9), 0);
        town.days(1);
        CHECK.due("the gift is back as of day 0", town.lot(1, 9), 0);
        Check.until(town, 331);
        CHECK.due("the company got it back on 330", town.lot(0, 9), 330);
    }

    private static void worthByTheStepsToTheHalt() {
        PaperTown town = Check.town("g19 15 1 1 g0 0 2 2");
        CHECK.due("34 steps", town.lot(0, 3), 20 + 5);
        CHECK.due("no step", town.lot(1, 3), 80 + 200);
        town.halt(1, 0);
        CHECK.due("a step in x, from a cell of its own", town.lot(1, 3), 80 + 100);
        town.halt(0, 1);
        CHECK.due("a step in y", town.lot(1, 3), 80 + 100);
        town.halt(1, 1);
        CHECK.due("two steps, cut", town.lot(1, 3), 80 + 66);
        town.halt(19, 15);
        CHECK.due("34 steps the other way", town.lot(1, 3), 80 + 5);
        CHECK.due("none", town.lot(0, 3), 20 + 200);
        town.halt(19, 0);
        CHECK.due("fifteen", town.lot(0, 3), 20 + 12);
        town.halt(0, 15);
        CHECK.due("nineteen", town.lot(0, 3), 20 + 10);
    }

    /** Who got the gifts by number lives on them. */
    private static PaperTown livedOn(String text, int... lots) {
        PaperTown town = Check.town(text);
        for (int l : lots) {
            int p = town.person(0);
            town.give(l, p, 9999);
        }
        Check.until(town, 365);
        CHECK.due("they live there", town.count(4), lots.length);
        return town;
    }

    /** Lot 0 is 2 by 2 at (5, 5): its worth without neighbours is 80 and 200 / 11. */
    private static void worthByEachSide() {
        String[] beside = {"g5 4 1 1", "g6 4 1 1", "g5 7 1 1", "g6 7 1 1", "g4 5 1 1", "g4 6 1 1", "g7 5 1 1",
            "g7 6 1 1", "g2 4 9 1", "g7 1 3 5"};
        for (String gift : beside) {
            CHECK.due("beside " + gift, livedOn("g5 5 2 2 " + gift, 1).lot(0, 3), 98 + 15);
        }
        String[] off = {"g4 4 1 1", "g7 4 1 1", "g4 7 1 1", "g7 7 1 1", "g5 3 1 1", "g5 8 1 1", "g3 5 1 1",
            "g8 5 1 1", "g1 1 4 4"};
        for (String gift : off) {
            CHECK.due("not beside " + gift, livedOn("g5 5 2 2 " + gift, 1).lot(0, 3), 98);
        }
        CHECK.due("beside, nobody lives there", livedOn("g5 5 2 2 g5 4 1 1").lot(0, 3), 98);
    }

    private static void worthCountsALotOnce() {
        PaperTown town = livedOn("g5 5 2 2 g5 4 2 1", 1);
        CHECK.due("two cells of one lot", town.lot(0, 3), 98 + 15);
        PaperTown two = livedOn("g5 5 2 2 g5 4 1 1 g6 4 1 1", 1, 2);
        CHECK.due("two lots of a cell each", two.lot(0, 3), 98 + 30);
    }

    private static void worthWithAllSidesLivedOn() {
        PaperTown town = livedOn("g5 5 2 2 g5 4 1 1 g6 4 1 1 g5 7 1 1 g6 7 1 1 g4 5 1 1 g4 6 1 1 g7 5 1 1 g7 6 1 1",
            1, 2, 3, 4, 5, 6, 7, 8);
        CHECK.due("eight beside", town.lot(0, 3), 98 + 120);
        town.pass(8, 0);
        CHECK.due("one lives nowhere at once", town.lot(0, 3), 98 + 105);
    }

    private static void worthIsNotRoundTheEdge() {
        PaperTown town = livedOn("g0 5 1 1 g19 4 1 1 g19 5 1 1", 1, 2);
        CHECK.due("the other edge is not beside", town.lot(0, 3), 20 + 200 / 6);
        PaperTown rows = livedOn("g5 0 1 1 g5 15 1 1", 1);
        CHECK.due("nor the lower one", rows.lot(0, 3), 20 + 200 / 6);
    }

    private static void worthOfALotItselfLivedOn() {
        PaperTown town = livedOn("g5 5 2 2", 0);
        CHECK.due("none for itself", town.lot(0, 3), 98);
    }

    private static void worthByStreetsBeside() {
        String[] beside = {"s5 4 0 1", "s6 4 0 1", "s5 7 0 1", "s6 7 0 1", "s4 5 0 1", "s4 6 0 1", "s7 5 0 1",
            "s7 6 0 1", "s0 4 0 6", "s7 0 1 6"};
        for (String street : beside) {
            PaperTown town = Check.town("g5 5 2 2 " + street);
            CHECK.due("beside " + street, town.lot(0, 3), 98 + 30);
            CHECK.due("vacate " + street, town.vacate(0), 1);
            CHECK.due("vacated " + street, town.lot(0, 3), 98 + 20);
        }
        String[] off = {"s4 4 0 1", "s7 4 0 1", "s4 7 0 1", "s7 7 0 1", "s0 4 0 5", "s7 0 1 5", "s0 3 0 20",
            "s8 0 1 16"};
        for (String street : off) {
            PaperTown town = Check.town("g5 5 2 2 " + street);
            CHECK.due("not beside " + street, town.lot(0, 3), 98);
        }
        PaperTown edge = Check.town("g0 5 1 1 s19 5 0 1 s19 4 0 1 g5 0 1 1 s5 15 0 1");
        CHECK.due("not round the edge in x", edge.lot(0, 3), 20 + 200 / 6);
        CHECK.due("nor in y", edge.lot(1, 3), 20 + 200 / 6);
    }

    private static void worthByAStreetOnce() {
        PaperTown town = Check.town("g5 5 2 2 s4 4 0 4 s7 5 1 2");
        CHECK.due("two streets", town.lot(0, 3), 98 + 30);
        town.vacate(0);
        CHECK.due("one is vacated", town.lot(0, 3), 98 + 20 * 2 + 30);
        town.vacate(1);
        CHECK.due("both are", town.lot(0, 3), 98 + 20 * 4);
    }

    /** The cell beside the lot is of the first street, though the second goes over it too. */
    private static void worthByACrossing() {
        PaperTown town = Check.town("g5 5 2 2 s5 4 0 1 s5 0 1 5");
        CHECK.due("both are there", town.lot(0, 3), 98 + 30);
        town.vacate(0);
        CHECK.due("the first is vacated", town.lot(0, 3), 98 + 20);
        PaperTown other = Check.town("g5 5 2 2 s5 4 0 1 s5 0 1 5");
        CHECK.due("the second has no cell beside", other.vacate(1), 0);
        CHECK.due("the first stays", other.lot(0, 3), 98 + 30);
    }

    // ---- vacate

    private static void streetsThatThereAre() {
        PaperTown empty = Check.town("g0 0 1 1");
        CHECK.due("none there yet", empty.vacate(0), PaperTown.UNKNOWN);
        PaperTown town = Check.town("s0 0 0 1 ".repeat(12));
        for (int s : new int[] {LEAST, -1, 12, 13, 100, 111, 200, MOST}) {
            CHECK.due("street " + s, town.vacate(s), PaperTown.UNKNOWN);
        }
        CHECK.due("the first", town.vacate(0), 0);
        CHECK.due("the last", town.vacate(11), 0);
    }

    private static void vacatedOnce() {
        PaperTown town = Check.town("g0 0 3 1 s0 1 0 3");
        CHECK.due("vacated", town.vacate(0), 3);
        CHECK.due("again", town.vacate(0), PaperTown.NOT);
        CHECK.due("the area stays", town.lot(0, 0), 12);
        CHECK.due("the street stays counted", town.count(1), 1);
    }

    private static void vacatedWithoutCellsOfItsOwn() {
        PaperTown town = Check.town("g0 0 3 1 s0 1 0 3 s1 1 0 1");
        CHECK.due("none of its own", town.vacate(1), 0);
        CHECK.due("it is vacated", town.vacate(1), PaperTown.NOT);
        CHECK.due("the cell stays of the first", town.cell(1, 1), 100);
        CHECK.due("all three of the first", town.vacate(0), 3);
        Check.type(town, "s1 1 0 1 s2 1 0 2");
        town.draw();
        CHECK.due("nothing of a vacated one's", town.vacate(2), 0);
        CHECK.due("no lot beside its own cell", town.vacate(3), 0);
        CHECK.due("the area stays", town.lot(0, 0), 12);
    }

    /** The street is the one cell (5, 5), with so many of the four lots round it. */
    private static void vacatedToSoManyLots() {
        String[] gifts = {"g5 4 1 1 ", "g4 5 1 1 ", "g6 5 1 1 ", "g5 6 1 1 "};
        int[][] areas = {{}, {4}, {3, 3}, {3, 3, 2}, {3, 3, 2, 2}};
        StringBuilder text = new StringBuilder();
        for (int n = 0; n <= 4; n++) {
            PaperTown town = Check.town(text + "s5 5 0 1");
            CHECK.due("cells with " + n, town.vacate(0), n == 0 ? 0 : 1);
            for (int l = 0; l < n; l++) {
                CHECK.due("area of " + l + " of " + n, town.lot(l, 0), areas[n][l]);
            }
            CHECK.due("area of all " + n, town.count(12), 2 * n + (n == 0 ? 0 : 2));
            CHECK.due("vacated with " + n, town.cell(5, 5), 200);
            if (n < 4) {
                text.append(gifts[n]);
            }
        }
        PaperTown corners = Check.town("g4 4 1 1 g6 4 1 1 g4 6 1 1 g6 6 1 1 s5 5 0 1");
        CHECK.due("none at the corners", corners.vacate(0), 0);
        CHECK.due("area stays", corners.count(12), 8);
    }

    private static void vacatedToTheLeastNumbers() {
        String[] orders = {"g5 6 1 1 g6 5 1 1 g4 5 1 1 g5 4 1 1 ", "g4 5 1 1 g5 6 1 1 g5 4 1 1 g6 5 1 1 ",
            "g6 5 1 1 g5 4 1 1 g5 6 1 1 g4 5 1 1 "};
        for (String order : orders) {
            PaperTown town = Check.town(order + "s5 5 1 1");
            town.vacate(0);
            for (int l = 0; l < 4; l++) {
                CHECK.due("area of " + l + " in " + order, town.lot(l, 0), l < 2 ? 3 : 2);
            }
        }
    }

    private static void vacatedGoesToNoLaterLot() {
        PaperTown town = Check.town("s5 5 0 2 g5 4 1 1");
        CHECK.due("one of two", town.vacate(0), 1);
        Check.type(town, "g6 4 1 1 g5 6 2 1");
        CHECK.due("drawn later", town.draw(), 3);
        CHECK.due("nothing for it", town.lot(1, 0), 2);
        CHECK.due("nor for that one", town.lot(2, 0), 4);
        CHECK.due("its place stays its own", town.cell(6, 5), 200);
    }

    private static void vacatedIsNoCellOfALot() {
        PaperTown town = Check.town("g5 5 1 1 s5 4 0 1 s5 3 0 1 g5 2 1 1");
        CHECK.due("beside the lot", town.vacate(0), 1);
        CHECK.due("the next street is not beside it", town.lot(0, 3), 10 * 4 + 200 / 11);
        CHECK.due("it goes to the other lot alone", town.vacate(1), 1);
        CHECK.due("the first has its own", town.lot(0, 0), 4);
        CHECK.due("the other got both halves", town.lot(1, 0), 4);
        CHECK.due("the least cell stays", town.lot(0, 8), 105);
    }

    private static void vacatedAllRoundALot() {
        PaperTown town = Check.town("g5 5 2 2 s4 4 0 4 s4 7 0 4 s4 5 1 2 s7 5 1 2");
        CHECK.due("above", town.vacate(0), 2);
        CHECK.due("below", town.vacate(1), 2);
        CHECK.due("left", town.vacate(2), 2);
        CHECK.due("right", town.vacate(3), 2);
        CHECK.due("eight cells", town.lot(0, 0), 8 + 16);
        CHECK.due("a corner is grass again", town.cell(4, 4), 200);
    }

    private static void vacatedAtTheEdges() {
        PaperTown town = Check.town("s0 0 0 20 s0 15 0 20 b0 1 1 1 1 b19 1 1 1 1 b0 14 1 1 1 b19 14 1 1 1");
        CHECK.due("the first row", town.vacate(0), 2);
        CHECK.due("the last row", town.vacate(1), 2);
        for (int l = 0; l < 4; l++) {
            CHECK.due("area " + l, town.lot(l, 0), 4);
        }
        PaperTown columns = Check.town("s0 0 1 16 s19 0 1 16 b1 0 1 1 1 b18 0 1 1 1 b1 15 1 1 1 b18 15 1 1 1");
        CHECK.due("the first column", columns.vacate(0), 2);
        CHECK.due("the last column", columns.vacate(1), 2);
        CHECK.due("area of all", columns.count(12), 16);
        PaperTown round = Check.town("s0 5 0 1 g19 4 1 1 g19 5 1 1 s5 0 0 1 g5 15 1 1");
        CHECK.due("not round the edge in x", round.vacate(0), 0);
        CHECK.due("nor in y", round.vacate(1), 0);
    }

    // ---- halt

    private static void haltOnTheGrass() {
        PaperTown town = new PaperTown();
        int[][] inside = {{0, 0, 0}, {19, 0, 19}, {0, 15, 300}, {19, 15, 319}, {0, 1, 20}};
        for (int[] at : inside) {
            town.halt(at[0], at[1]);
            CHECK.due("halt " + at[0] + ", " + at[1], town.count(13), at[2]);
        }
        town.halt(3, 2);
        int[][] outside = {{20, 0}, {-1, 0}, {0, 16}, {0, -1}, {20, 15}, {19, 16}, {-1, 1}, {LEAST, 0}, {MOST, 0},
            {0, LEAST}, {0, MOST}, {MOST, MOST}, {LEAST, LEAST}};
        for (int[] at : outside) {
            CHECK.due("halt " + at[0] + ", " + at[1], town.halt(at[0], at[1]), PaperTown.OUTSIDE);
            CHECK.due("it stays", town.count(13), 43);
        }
    }

    private static void haltAnswersTheOneAhead() {
        PaperTown town = Check.town("g5 5 1 1 s0 0 0 5");
        CHECK.due("cell 0 at first", town.halt(19, 15), 0);
        CHECK.due("the last cell", town.halt(5, 5), 319);
        CHECK.due("on a lot", town.halt(5, 5), 105);
        CHECK.due("the same again", town.halt(2, 0), 105);
        CHECK.due("on a street", town.halt(0, 0), 2);
    }
}
