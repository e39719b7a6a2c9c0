import java.lang.reflect.Method;
import java.lang.reflect.Modifier;
import java.util.Arrays;
import java.util.Set;
import java.util.TreeSet;
import java.util.regex.Matcher;
import java.util.regex.Pattern;
import java.util.stream.Collectors;

/** The document from its first line to its terms' last, sentence by sentence. */
public final class DocTermsTest {
    private static final Check CHECK = new Check();
    private static final int NONE = PaperTown.NONE, UNKNOWN = PaperTown.UNKNOWN, OUTSIDE = PaperTown.OUTSIDE,
        NOT = PaperTown.NOT, FULL = PaperTown.FULL;
    private static final String FORTY = "b0 0 1 1 9 b0 1 1 1 9 b0 2 1 1 9 b0 3 1 1 9 b0 4 1 1 4";

    private final Document doc;

    private DocTermsTest() throws Exception {
        doc = new Document(CHECK, "What it is", "Promise 1:");
    }

    public static void main(String[] args) throws Exception {
        DocTermsTest test = new DocTermsTest();
        test.whatItIs();
        test.theFace();
        test.words();
        test.grassAndText();
        test.orders();
        test.placesAndNumbers();
        test.faults();
        test.drawing();
        test.daysAndOwners();
        test.auctions();
        test.parts();
        test.worth();
        test.taxes();
        test.comers();
        test.vacated();
        test.gifts();
        test.bonds();
        test.doc.end();
        CHECK.end();
    }

    private void says(String words) {
        doc.says(words);
    }

    // ---- what it is, the face

    private void whatItIs() {
        says("What it is Towns on paper: a town is drawn on empty grass by a text of blocks, streets and gifts;");
        PaperTown town = Check.town("b0 1 1 1 3 s0 2 0 3 g5 5 1 1");
        due("drawn", town.count(0), 4);
        town.person(1000);
        town.person(30);
        says("lots are sold by auction and paid in parts, forfeited when these stay out;");
        Check.buy(town, 0, 0, 400);
        Check.buy(town, 1, 1, 100);
        town.give(3, 1, 200);
        Check.until(town, 365);
        due("paid", town.told(0, 0), 600);
        due("forfeited", town.lot(1, 9), 130);
        says("people come by what a lot is worth to them and go when taxes stay unpaid;");
        due("he came", town.told(0, 2), 0);
        due("a bond is voted", town.bond(60, 1), 1);
        town.money(0, -600);
        town.rate(100);
        Check.until(town, 1095);
        due("he went", town.told(0, 2), NONE);
        says("streets are vacated to their sides, halts are moved, gifts go back when their condition fails,");
        due("vacated", town.vacate(0), 3);
        due("moved", town.halt(2, 1), 0);
        due("gone back", town.lot(3, 9), 200);
        says("bonds are voted by those who live there; every title is led day by day,");
        due("nobody lives there", town.bond(1, 0), 0);
        says("and may be asked as of any day.");
        due("his on day 0", town.title(0, 0), 0);
        due("his on day 1093", town.title(0, 1093), 0);
        due("not his on day 1094", town.title(0, 1094), NONE);
        due("the gift on day 199", town.title(3, 199), 1);
        due("the gift on day 200", town.title(3, 200), NONE);
        says("An object is used for at most 512 calls after it has been made; what later calls answer is free.");
        PaperTown busy = new PaperTown();
        for (int call = 1; call < 512; call++) {
            busy.halt(call % 20, 3);
        }
        due("the 512th call", busy.halt(0, 0), 60 + 511 % 20);
    }

    private void theFace() {
        says("The public face");
        String face = doc.upTo("Terms Words");
        Set<String> told = new TreeSet<>();
        Matcher m = Pattern.compile("public (\\w+) (\\w+)\\(([^)]*)\\);").matcher(face);
        while (m.find()) {
            told.add(m.group(1) + " " + m.group(2) + " " + m.group(3).replaceAll("(\\w+) \\w+", "$1"));
        }
        Set<String> there = new TreeSet<>();
        for (Method method : PaperTown.class.getDeclaredMethods()) {
            if (Modifier.isPublic(method.getModifiers())) {
                there.add(method.getReturnType() + " " + method.getName() + " "
                    + Arrays.stream(method.getParameterTypes()).map(Class::getName).collect(Collectors.joining(", ")));
            }
        }
        due("the face " + told + " is " + there, told.equals(there) ? 19 : 0, told.size());
        due("the constants", face.contains("public static final int NONE = -1, UNKNOWN = -1001, OUTSIDE = -1002, "
            + "NOT = -1003, FULL = -1004;") ? 1 : 0, 1);
        due("UNKNOWN", UNKNOWN, -1001);
        due("OUTSIDE", OUTSIDE, -1002);
        due("NOT", NOT, -1003);
        due("FULL", FULL, -1004);
    }

    // ---- terms ahead of the four parts

    private void words() {
        says("Terms Words in capitals are told where they come first.");
        says("All numbers are whole; / cuts towards 0;");
        PaperTown town = Check.town("b0 0 1 1 2 s9 9 0 1 s9 8 0 1");
        town.halt(2, 0);
        due("200 / 3", town.lot(0, 3), 20 + 66);
        says("what has a number has it from 0 on, as it comes.");
        due("the first person", town.person(5), 0);
        due("the second person", town.person(5), 1);
        due("the first lot", town.cell(0, 0), 0);
        due("the second lot", town.cell(1, 0), 1);
        due("the first street", town.cell(9, 9), 100);
        due("the second street", town.cell(9, 8), 101);
        says("NONE is -1.");
        due("NONE", PaperTown.NONE, -1);
        says("REFUSALS, of several the first in this order: UNKNOWN (a LOT, STREET, PERSON that there is not), "
            + "OUTSIDE (another number out of its bounds), NOT (not now, as told), FULL.");
        due("no such lot, sum", town.bid(2, 0, 0), UNKNOWN);
        due("no such person, sum", town.bid(0, 2, 0), UNKNOWN);
        due("no such street", town.vacate(2), UNKNOWN);
        Check.buy(town, 0, 0, 4);
        due("sum, not now", town.bid(0, 0, 0), OUTSIDE);
        due("not now", town.bid(0, 0, 1), NOT);
        Check.type(town, " ".repeat(200));
        due("outside, full", town.feed(9, 0), OUTSIDE);
        due("full", town.feed(1, 0), FULL);
        says("What is refused changes nothing.");
        Check.Story before = other -> Check.type(other, "g0 0 1 1");
        Check.Story refused = other -> {
            other.feed(0, 0);
            other.halt(20, 5);
            other.person(-1);
            other.rate(101);
            other.days(1001);
            other.vacate(0);
        };
        due("the same", Check.state(before).equals(Check.state(before, refused)) ? 1 : 0, 1);
    }

    // ---- 1 the grass, the plat

    private void grassAndText() {
        says("THE GRASS has 20 by 16 CELLS, CELL 20 y + x.");
        PaperTown town = new PaperTown();
        due("the last", town.cell(19, 15), NONE);
        due("too far in x", town.cell(20, 0), OUTSIDE);
        due("too far in y", town.cell(0, 16), OUTSIDE);
        town.halt(3, 2);
        due("number of (3, 2)", town.count(13), 43);
        says("THE PLAT is drawn by a text (200 bytes at most) of orders,");
        good(" ".repeat(191) + "g0 0 1 1 ", 1);
        Check.type(town, " ".repeat(200));
        due("one more", town.feed(1, ' '), FULL);
        says("each a letter and its NUMBERS (one or two figures each),");
        good("g0 0 1 1", 1);
        good("g00 00 01 01", 1);
        fault("g000 0 1 1", 2, 1);
        says("parted by blanks (32; one or more wherever two NUMBERS, or a NUMBER and the next letter, meet; "
            + "none or more elsewhere):");
        good("g0 0 1 1 g2 0 1 1", 2);
        good("  g  0   0  1   1    g   2 0 1 1  ", 2);
        fault("g0\t0 1 1", 1, 2);
        fault("g0 0 1 1g2 0 1 1", 1, 8);
        fault("g0 01 1", 1, 7);
    }

    private void orders() {
        says("b x y w h n: a block of n LOTS side by side, each w wide and h high, from CELL (x, y) on towards "
            + "greater x.");
        good("b3 2 2 4 3", 3);
        for (int l = 0; l < 3; l++) {
            isJust("b3 2 2 4 3", l, 3 + 2 * l, 2, 2, 4);
        }
        due("no gift", Check.town("b3 2 2 4 3").lot(1, 2), 0);
        says("s x y d l: a STREET from (x, y), l CELLS long, towards greater x (d 0) or y (d 1), one CELL wide.");
        good("s3 2 0 5", 0);
        isJust("s3 2 0 5", 100, 3, 2, 5, 1);
        isJust("s3 2 1 5", 100, 3, 2, 1, 5);
        says("g x y w h: a gift, one LOT of w by h that is a GIFT.");
        good("g3 2 2 4", 1);
        isJust("g3 2 2 4", 0, 3, 2, 2, 4);
        due("a gift", Check.town("g3 2 2 4").lot(0, 2), 1);
        says("Bounds: x 0 .. 19, y 0 .. 15, w, h, n 1 .. 9, d 0, 1, l 1 .. 20;");
        bounds('b', new int[] {0, 0, 1, 1, 1}, new int[] {19, 15, 9, 9, 9});
        bounds('s', new int[] {0, 0, 0, 1}, new int[] {19, 15, 1, 20});
        bounds('g', new int[] {0, 0, 1, 1}, new int[] {19, 15, 9, 9});
    }

    /** Each number at its bounds and just out of them, the others at their least. */
    private static void bounds(char letter, int[] least, int[] most) {
        for (int k = 0; k < least.length; k++) {
            for (int value : new int[] {least[k], most[k], least[k] - 1, most[k] + 1}) {
                StringBuilder text = new StringBuilder().append(letter);
                int at = 0;
                for (int i = 0; i < least.length; i++) {
                    text.append(i == 0 ? "" : " ");
                    at = i == k ? text.length() : at;
                    text.append(i == k ? value : least[i]);
                }
                if (value >= least[k] && value <= most[k]) {
                    good(text.toString(), letter == 's' ? 0 : k == 4 ? value : 1);
                } else if (value >= 0) {
                    fault(text.toString(), 2, at);
                }
            }
        }
    }

    private void placesAndNumbers() {
        says("all has to lie on THE GRASS;");
        good("b16 0 2 1 2", 2);
        fault("b17 0 2 1 2", 3, 0);
        good("g0 7 1 9", 1);
        fault("g0 8 1 9", 3, 0);
        good("s0 0 1 16", 0);
        fault("s0 0 1 17", 3, 0);
        good("s15 0 0 5", 0);
        fault("s16 0 0 5", 3, 0);
        says("LOTS 40 at most, STREETS 12.");
        good(FORTY, 40);
        fault(FORTY + " g9 9 1 1", 4, 55);
        good("s0 0 0 1 ".repeat(12), 0);
        fault("s0 0 0 1 ".repeat(13), 4, 108);
        says("STREETS may cross STREETS (a CELL is of the first one);");
        PaperTown town = Check.town("s5 5 0 3 s6 4 1 3");
        due("both", town.count(1), 2);
        due("where they cross", town.cell(6, 5), 100);
        due("the second one's own", town.cell(6, 6), 101);
        says("else no two may have a CELL in common.");
        for (String first : new String[] {"b5 5 1 1 1 ", "g5 5 1 1 ", "s5 5 0 1 "}) {
            for (String second : new String[] {"b4 5 1 1 2", "g5 4 1 2", "s4 5 0 2"}) {
                if (first.charAt(0) == 's' && second.charAt(0) == 's') {
                    good(first + second, 0);
                } else {
                    fault(first + second, 3, first.length());
                }
            }
        }
    }

    private void faults() {
        says("FAULTS, at the first byte that has one (the end at the text's length), of these the least:");
        fault("g0 16 1 x", 2, 3);
        fault("g0 x 16 1", 1, 3);
        fault("g0 0 1", 1, 6);
        fault("g0 0 1  ", 1, 8);
        fault("g", 1, 1);
        fault(FORTY + " g0 0 1 1", 3, 55);
        says("1 it cannot stand there.");
        fault("x", 1, 0);
        fault("G0 0 1 1", 1, 0);
        fault("7", 1, 0);
        fault("gg", 1, 1);
        fault("g0 0 1 1 1", 1, 9);
        fault("g0 0 1 1x", 1, 8);
        fault("g0 0 1,1", 1, 6);
        says("2 a NUMBER of three figures or more, or out of its bounds (at its first).");
        fault("g0 0 001 1", 2, 5);
        fault("g0 0 1 12345678", 2, 7);
        fault("g0 0 10 1", 2, 5);
        fault("g 20 0 1 1", 2, 2);
        says("3 (at the letter of an order, behind all of it) not all of it is on THE GRASS, or it meets what was "
            + "drawn, as told.");
        fault(" g19 0 2 1", 3, 1);
        fault("g19 0 2 10", 2, 8);
        fault("g19 0 2", 1, 7);
        fault("g0 0 1 1 g0 0 1 1", 3, 9);
        fault("g19 0 2 1 x", 3, 0);
        says("4 (likewise) LOTS or STREETS are too many.");
        fault(FORTY + "  b9 9 1 1 1", 4, 56);
        fault(FORTY + " g9 9 1 10", 2, 62);
        fault("s0 0 0 1 ".repeat(12) + " s9 9 0 1 x", 4, 109);
    }

    private void drawing() {
        says("A text without FAULTS draws, behind what is drawn;");
        PaperTown town = Check.town("g0 0 1 1 s0 1 0 2");
        Check.type(town, "g1 0 1 1 s0 2 0 2");
        due("two lots", town.draw(), 2);
        due("the first stays", town.cell(0, 0), 0);
        due("the second", town.cell(1, 0), 1);
        due("the second street", town.cell(0, 2), 101);
        says("one with a FAULT draws nothing.");
        Check.type(town, "g5 5 1 1 s6 6 0 2 x");
        due("a fault", town.draw(), -11);
        due("no lot", town.cell(5, 5), NONE);
        due("no street", town.cell(6, 6), NONE);
        due("lots", town.count(0), 2);
        due("streets", town.count(1), 2);
        faultLeavesAllAsItWas();
        says("LOTS, STREETS are numbered as they are drawn.");
        Check.type(town, "s6 6 0 2 b7 7 1 1 2 g5 5 1 1");
        due("three more", town.draw(), 5);
        due("lot 2", town.cell(7, 7), 2);
        due("lot 3", town.cell(8, 7), 3);
        due("lot 4", town.cell(5, 5), 4);
        due("street 2", town.cell(6, 6), 102);
        says("AREA of a LOT, in halves: two for each of its CELLS, and what came to it from STREETS.");
        PaperTown wide = Check.town("g5 5 3 2 s5 7 0 2");
        due("six cells", wide.lot(0, 0), 12);
        wide.vacate(0);
        due("and two", wide.lot(0, 0), 16);
    }

    private static void faultLeavesAllAsItWas() {
        PaperTown empty = Check.town("g0 0 1 1 s19 15 0 1 x");
        due("no lot at the first cell", empty.cell(0, 0), NONE);
        due("no street at the last", empty.cell(19, 15), NONE);
        due("no lots", empty.count(0), 0);
        due("no streets", empty.count(1), 0);
        PaperTown town = Check.town("s0 0 0 2 s0 1 0 2 g0 2 1 1");
        town.vacate(0);
        Check.type(town, "g9 9 1 1 s0 3 0 1 x");
        due("a fault behind them", town.draw(), -11);
        due("a vacated street", town.cell(0, 0), 200);
        due("a street", town.cell(1, 1), 101);
        due("a lot", town.cell(0, 2), 0);
        due("no new lot", town.cell(9, 9), NONE);
        due("no new street", town.cell(0, 3), NONE);
        PaperTown street = Check.town("s0 0 0 2");
        Check.type(street, "g9 9 1 1 x");
        due("a fault behind a street", street.draw(), -11);
        due("the first street", street.cell(1, 0), 100);
    }

    // ---- 2 days, auctions, parts

    private void daysAndOwners() {
        says("DAYS go from 0 to 9999; NOW is a DAY (0 at first).");
        PaperTown town = Check.town("b0 0 1 1 1 g5 5 1 1");
        due("at first", town.count(3), 0);
        Check.until(town, 9999);
        due("the last", town.count(3), 9999);
        due("none behind", town.days(1), NOT);
        says("PERSONS (20 at most) have MONEY (0 .. 1000000).");
        due("none", town.person(0), 0);
        due("all", town.person(1000000), 1);
        due("more", town.person(1000001), OUTSIDE);
        due("less", town.money(0, -1), OUTSIDE);
        due("more than all", town.money(1, 1), OUTSIDE);
        for (int p = 2; p < 20; p++) {
            due("person", town.person(p), p);
        }
        due("the 21st", town.person(0), FULL);
        says("A LOT has an OWNER: THE COMPANY (NONE) or a PERSON; a GIFT has one (NONE at first) by give().");
        due("the company", town.lot(0, 1), NONE);
        Check.buy(town, 0, 7, 4);
        due("a person", town.lot(0, 1), 7);
        due("none at first", town.lot(1, 1), NONE);
        due("not by an auction", town.bid(1, 7, 4), NOT);
        town.give(1, 3, 9999);
        due("given", town.lot(1, 1), 3);
    }

    private void auctions() {
        says("AN AUCTION of a LOT that THE COMPANY owns (no GIFT): BIDS of PERSONS (one each; with a later one the "
            + "one ahead is gone);");
        PaperTown town = Check.town("b0 0 1 1 4 g5 5 1 1");
        for (int money : new int[] {1000, 1000, 4}) {
            town.person(money);
        }
        due("one", town.bid(0, 0, 40), 1);
        due("another's", town.bid(0, 1, 24), 2);
        due("a later one", town.bid(0, 0, 44), 2);
        due("at once again", town.bid(0, 0, 8), 2);
        due("the other's later one", town.bid(0, 1, 20), 2);
        due("no gift", town.bid(4, 0, 8), NOT);
        due("the one ahead is gone", town.close(0), 1);
        due("a person's", town.bid(0, 0, 8), NOT);
        says("closed, the greatest one buys, of like ones the first told, for that sum:");
        town.bid(1, 2, 7);
        town.bid(1, 1, 8);
        town.bid(1, 0, 8);
        due("the first of the greatest", town.close(1), 1);
        due("for that sum", town.lot(1, 5), 6);
        says("a quarter, cut, is paid at once (who has not so much MONEY is passed over, and the next one is asked; "
            + "if none is left, nobody buys),");
        town.bid(2, 0, 4004);
        town.bid(2, 2, 19);
        due("passed over", town.close(2), 2);
        due("a quarter of 19", town.told(2, 0), 0);
        town.bid(3, 0, 4004);
        due("none is left", town.close(3), NONE);
        due("nobody's", town.lot(3, 1), NONE);
        due("he keeps it", town.told(0, 0), 1000);
        restOfASale();
    }

    private void restOfASale() {
        says("and the rest is owed in three PARTS, each due 100 DAYS behind the one ahead: the rest / 3, the last one "
            + "with what is left over.");
        PaperTown town = Check.town("b0 0 1 1 1");
        town.person(1000);
        town.days(7);
        Check.buy(town, 0, 0, 15); // 3 at once, then 4, 4, 4
        owedOneByOne(town, new int[][] {{12, 107}, {8, 207}, {4, 307}, {0, NONE}});
        PaperTown odd = Check.town("b0 0 1 1 1");
        odd.person(1000);
        odd.days(7);
        Check.buy(odd, 0, 0, 14); // 3 at once, then 3, 3, 5
        owedOneByOne(odd, new int[][] {{11, 107}, {8, 207}, {5, 307}, {0, NONE}});
        says("The LOT is his as of NOW.");
        due("as of", town.lot(0, 9), 7);
        due("on that day", town.title(0, 7), 0);
        due("the day ahead", town.title(0, 6), NONE);
    }

    /** What is owed and when the next part is due, at first and behind each part's day. */
    private static void owedOneByOne(PaperTown town, int[][] rest) {
        for (int[] row : rest) {
            due("owed", town.lot(0, 5), row[0]);
            due("due", town.lot(0, 6), row[1]);
            Check.until(town, row[1] + 1);
        }
    }

    private void parts() {
        says("A PART that is due is paid out of his MONEY at the end of that DAY, if he has it;");
        PaperTown town = Check.town("b0 0 1 1 2");
        town.person(20);
        Check.buy(town, 0, 0, 40);
        Check.until(town, 100);
        due("not yet", town.told(0, 0), 10);
        town.days(1);
        due("paid", town.told(0, 0), 0);
        due("owed", town.lot(0, 5), 20);
        says("else at the end of each DAY after till it is paid;");
        Check.until(town, 215);
        due("still owed", town.lot(0, 5), 20);
        town.money(0, 10);
        town.days(1);
        due("paid then", town.lot(0, 5), 10);
        says("on the 30th DAY behind that on which it was due the LOT is FORFEIT (if it is not paid then): THE COMPANY "
            + "owns it, what was paid is lost, nothing more is owed.");
        Check.until(town, 330);
        due("his on the 30th day", town.lot(0, 1), 0);
        town.days(1);
        due("the company's at its end", town.lot(0, 1), NONE);
        due("forfeit", town.count(6), 1);
        due("lost", town.count(8) + 100 * town.told(0, 0), 30);
        due("nothing owed", town.lot(0, 5), 0);
        due("nothing due", town.lot(0, 6), NONE);
        says("(At the end of a DAY by LOTS' numbers.)");
        PaperTown two = Check.town("b0 0 1 1 2");
        two.person(20);
        Check.buy(two, 1, 0, 40);
        Check.buy(two, 0, 0, 40);
        two.money(0, 10);
        Check.until(two, 101);
        due("the first has it", two.lot(0, 5), 20);
        due("the second has not", two.lot(1, 5), 30);
    }

    // ---- 3 worth, taxes, comers, vacated streets, gifts

    private void worth() {
        says("WORTH of a LOT: AREA times 10, and 200 / (1 and the steps from its first CELL, its least one, to THE "
            + "HALT, a CELL: the sizes of both differences),");
        PaperTown town = Check.town("g5 5 2 2 g5 7 1 1 g4 6 1 1 g4 4 1 1");
        town.halt(7, 1);
        due("2 and 4 steps", town.lot(0, 3), 80 + 200 / 7);
        town.halt(1, 8);
        due("4 and 3 steps", town.lot(0, 3), 80 + 200 / 8);
        town.halt(5, 5);
        due("none", town.lot(0, 3), 80 + 200);
        says("and 15 for each LOT that somebody LIVES on and that has a CELL beside one of its CELLS,");
        for (int l = 1; l <= 3; l++) {
            town.person(0);
            town.give(l, l - 1, 9999);
        }
        due("nobody lives there", town.lot(0, 3), 280);
        Check.until(town, 365);
        due("two beside, one at the corner", town.lot(0, 3), 280 + 30);
        town.give(0, 0, 9999);
        town.pass(1, 1);
        Check.until(town, 730);
        due("one of them lives on the first now", town.lot(0, 4), 0);
        due("beside the first", town.lot(1, 3), 20 + 66 + 15);
        due("at its corner", town.lot(3, 3), 20 + 66);
        due("one is left beside it", town.lot(0, 3), 280 + 15);
        says("and 30 if a STREET that is not vacated has a CELL beside one of its CELLS.");
        for (String street : new String[] {"s6 4 0 1", "s6 7 0 1", "s4 6 0 1", "s7 6 0 1", "s0 4 0 20", "s4 0 1 9"}) {
            due("beside: " + street, Check.town("g5 5 2 2 " + street).lot(0, 3), 98 + 30);
        }
        for (String street : new String[] {"s4 4 0 1", "s7 7 0 1", "s5 3 0 2", "s5 8 0 2", "s3 5 0 1", "s8 5 0 1"}) {
            due("not beside: " + street, Check.town("g5 5 2 2 " + street).lot(0, 3), 98);
        }
        PaperTown two = Check.town("g5 5 2 2 s7 4 1 3 s5 4 0 2");
        due("two streets", two.lot(0, 3), 98 + 30);
        two.vacate(0);
        due("one is vacated, with two cells beside", two.lot(0, 3), 98 + 40 + 30);
        two.vacate(1);
        due("both are", two.lot(0, 3), 98 + 80);
    }

    private void taxes() {
        says("At the end of each DAY that is 364 modulo 365, behind the PARTS: TAXES, by LOTS: RATE (0 .. 100) of the "
            + "hundred of WORTH, cut, from each OWNER that is a PERSON;");
        PaperTown town = Check.town("g19 15 1 1 b0 0 1 1 1"); // worth 25
        town.person(100);
        town.give(0, 0, 9999);
        town.rate(50);
        Check.until(town, 364);
        due("not yet", town.told(0, 0), 100);
        town.days(1);
        due("half of 25, cut", town.told(0, 0), 88);
        Check.until(town, 729);
        due("not yet again", town.told(0, 0), 88);
        town.days(1);
        due("once more", town.told(0, 0), 76);
        due("none from the company", town.count(9), 24);
        taxesInTheirOrder();
        says("if he has not so much MONEY, one year more is OUT for that LOT, else none is;");
        town.money(0, -65);
        Check.until(town, 1095);
        due("eleven are too few", town.told(0, 0), 11);
        due("a year out", town.lot(0, 7), 1);
        town.money(0, 1);
        Check.until(town, 1460);
        due("twelve are not", town.told(0, 0), 0);
        due("none out", town.lot(0, 7), 0);
        says("with two years OUT the LOT is THE COMPANY's, what is owed is forgotten.");
        Check.until(town, 2189);
        due("a year out again", town.lot(0, 7), 1);
        due("his", town.lot(0, 1), 0);
        town.days(1);
        due("the company's", town.lot(0, 1), NONE);
        due("taken", town.count(7), 1);
        due("nothing owed", town.lot(0, 5), 0);
        due("nothing due", town.lot(0, 6), NONE);
        due("no year out", town.lot(0, 7), 0);
    }

    private static void taxesInTheirOrder() {
        PaperTown town = Check.town("g19 15 1 1 b18 15 1 1 1"); // worth 25 each
        town.person(26);
        town.rate(100);
        Check.until(town, 264);
        Check.buy(town, 1, 0, 7); // 1, then 2 on day 364
        town.give(0, 0, 9999);
        Check.until(town, 365);
        due("the part is paid ahead of taxes", town.lot(1, 5), 4);
        due("too few for the first", town.lot(0, 7), 1);
        due("too few for the second", town.lot(1, 7), 1);
        town.money(0, 6);
        Check.until(town, 730);
        due("the first is paid", town.lot(0, 7), 0);
        due("the second is taken", town.lot(1, 1), NONE);
    }

    private void comers() {
        says("Then COMERS: of PERSONS who own LOTS, and LIVE nowhere, by numbers: each LIVES on that of his LOTS with "
            + "the greatest WORTH as it is then, of like ones the least number.");
        // Lots 0, 1 and 2 are of like worth; lot 3 is of less, till somebody lives on lot 1 beside it.
        PaperTown town = Check.town("g0 9 1 1 g9 0 1 1 g4 5 1 1 g10 0 1 1");
        for (int p = 0; p < 4; p++) {
            town.person(0);
        }
        town.give(3, 2, 9999);
        town.give(2, 2, 9999);
        town.give(1, 1, 9999);
        town.give(0, 1, 9999);
        Check.until(town, 364);
        due("not yet", town.count(4), 0);
        town.days(1);
        due("who owns none", town.told(0, 2), NONE);
        due("of like ones the least", town.told(1, 2), 0);
        due("the greatest", town.told(2, 2), 2);
        town.pass(0, 3);
        town.pass(2, 3);
        town.pass(2, 2);
        Check.until(town, 730);
        due("the one that is left", town.told(1, 2), 1);
        due("beside him, as it is then", town.told(2, 2), 3);
        due("the last", town.told(3, 2), 0);
        says("Who does not own the LOT on which he LIVES any more LIVES nowhere (as soon as that is so).");
        town.pass(0, 1);
        due("nowhere", town.told(3, 2), NONE);
        due("nobody there", town.lot(0, 4), NONE);
        due("who lives elsewhere stays", town.told(1, 2), 1);
        due("two live there", town.count(4), 2);
    }

    private void vacated() {
        says("VACATED, a STREET's CELLS (those that are its own) go each, by halves, to LOTS that have a CELL beside "
            + "it (least numbers first):");
        PaperTown town = Check.town("g5 6 1 1 g4 5 1 1 g5 4 1 1 g7 6 1 1 s5 5 0 5 s7 3 1 3 s9 0 1 9");
        due("none beside its own", town.vacate(1), 0);
        due("the crossing stays", town.cell(7, 5), 100);
        due("two beside lots", town.vacate(0), 2);
        says("one LOT gets both halves, of two or more the first two one each;");
        due("the first", town.lot(0, 0), 3);
        due("the second", town.lot(1, 0), 3);
        due("the third", town.lot(2, 0), 2);
        due("one alone", town.lot(3, 0), 4);
        PaperTown corner = Check.town("s0 0 0 1 g0 1 1 1 s19 15 0 1 g19 14 1 1");
        due("the first cell", corner.vacate(0), 1);
        due("the last cell", corner.vacate(1), 1);
        due("both halves of the first", corner.lot(0, 0), 4);
        due("both halves of the last", corner.lot(1, 0), 4);
        says("with none it is grass again (its place stays drawn on).");
        due("vacated", town.cell(8, 5), 200);
        Check.type(town, "g8 5 1 1");
        due("stays drawn on", town.draw(), -13);
        says("THE HALT may be moved.");
        town.halt(8, 5);
        due("moved", town.count(13), 108);
    }

    private void gifts() {
        says("A GIFT goes to a PERSON with a CONDITION: its OWNER is to LIVE on it at the end of a DAY told;");
        PaperTown town = Check.town("g0 0 1 1 g5 5 1 1");
        town.person(0);
        town.person(0);
        town.give(1, 0, 364);
        town.give(0, 1, 363);
        Check.until(town, 363);
        due("not judged yet", town.lot(0, 1), 1);
        says("if not, it goes back (NONE);");
        town.days(1);
        due("back", town.lot(0, 1), NONE);
        town.days(1);
        due("he lives there", town.lot(1, 1), 0);
        says("behind that DAY there is none any more.");
        town.pass(1, 1);
        Check.until(town, 729);
        due("nobody lives there", town.lot(1, 4), NONE);
        due("it stays his", town.lot(1, 1), 1);
    }

    // ---- 4 bonds, and what the interface says

    private void bonds() {
        says("A BOND: a sum; all who LIVE in the town on that DAY vote, by their RULE: yes, if the sum / how many LIVE "
            + "there is at most a tenth of their MONEY.");
        PaperTown town = Check.town("g0 0 1 1 g5 5 1 1 g9 9 1 1");
        int[] moneys = {109, 100, 99, 1000};
        for (int p = 0; p < 4; p++) {
            town.person(moneys[p]);
        }
        for (int l = 0; l < 3; l++) {
            town.give(l, l, 9999);
        }
        due("nobody yet", town.bond(1, 0), 0);
        Check.until(town, 365);
        due("nine each", town.bond(29, 0), 3);
        due("ten each", town.bond(32, 0), 2);
        due("eleven each", town.bond(33, 0), 0);
        says("It is taken, if more than half of them say yes.");
        due("two of three", town.bond(32, 1), 1);
        town.pass(0, 3);
        due("one of two", town.bond(20, 0), 1);
        due("is not enough", town.bond(20, 1), 0);
        says("Ahead of the calls feed, draw, place, cell, lot, vacate, halt the interface says: ---- the plat.");
        says("Ahead of the calls person, money, bid, close, pass, give, rate the interface says: ---- people, sales.");
        says("Ahead of the calls days, title, told, count, bond the interface says: ---- days.");
    }

    // ---- asking

    private static void due(String call, long got, long want) {
        CHECK.due(call, got, want);
    }

    private static void good(String text, int lots) {
        PaperTown town = new PaperTown();
        Check.type(town, text);
        due("draw '" + text + "'", town.draw(), lots);
        due("place of '" + text + "'", town.place(), NONE);
    }

    private static void fault(String text, int kind, int at) {
        PaperTown town = new PaperTown();
        Check.type(town, text);
        due("draw '" + text + "'", town.draw(), -10 - kind);
        due("place of '" + text + "'", town.place(), at);
    }

    /** Just the cells of that rectangle are so. */
    private static void isJust(String text, int what, int x, int y, int w, int h) {
        PaperTown town = Check.town(text);
        for (int c = 0; c < 320; c++) {
            int cx = c % 20;
            int cy = c / 20;
            boolean inside = cx >= x && cx < x + w && cy >= y && cy < y + h;
            due(text + ": is (" + cx + ", " + cy + ") " + what, town.cell(cx, cy) == what ? 1 : 0, inside ? 1 : 0);
        }
    }
}
