/** The document from its first promise to its last line, sentence by sentence. */
public final class DocPromisesTest {
    private static final Check CHECK = new Check();
    private static final int NONE = PaperTown.NONE, UNKNOWN = PaperTown.UNKNOWN, OUTSIDE = PaperTown.OUTSIDE,
        NOT = PaperTown.NOT, FULL = PaperTown.FULL;

    private final Document doc;

    private DocPromisesTest() throws Exception {
        doc = new Document(CHECK, "Promise 1:", "");
    }

    public static void main(String[] args) throws Exception {
        DocPromisesTest test = new DocPromisesTest();
        test.newObject();
        test.feed();
        test.draw();
        test.place();
        test.cell();
        test.lot();
        test.vacate();
        test.halt();
        test.person();
        test.money();
        test.bid();
        test.close();
        test.pass();
        test.give();
        test.rate();
        test.days();
        test.title();
        test.told();
        test.count();
        test.bond();
        test.notPromised();
        test.doc.end();
        CHECK.end();
    }

    private void says(String words) {
        doc.says(words);
    }

    // ---- the plat

    private void newObject() {
        says("Promise 1: A new object PaperTown(): Empty GRASS, no PERSONS; NOW is DAY 0, THE HALT CELL 0, RATE 0.");
        PaperTown town = new PaperTown();
        for (int c = 0; c < 320; c++) {
            due("grass", town.cell(c % 20, c / 20), NONE);
        }
        due("lots", town.count(0), 0);
        due("streets", town.count(1), 0);
        due("persons", town.count(2), 0);
        due("now", town.count(3), 0);
        due("the halt", town.count(13), 0);
        due("rate", town.rate(5), 0);
    }

    private void feed() {
        says("Promise 2: feed int feed(int n, long bytes): Up to eight bytes (n 1 .. 8) of a long, the highest of "
            + "these first, come behind THE TEXT: how many it has.");
        PaperTown town = new PaperTown();
        due("eight", town.feed(8, 0x6730203020312031L), 8); // "g0 0 1 1"
        due("one of blanks", town.feed(1, 0x7878787878787820L), 9); // " ", what is above it is not looked at
        due("three more", town.feed(3, 0x673520L), 12); // "g5 "
        due("and five", town.feed(5, 0x3520322032L), 17); // "5 2 2"
        due("two gifts", town.draw(), 2);
        due("the second", town.cell(6, 6), 1);
        says("OUTSIDE, FULL.");
        due("0", town.feed(0, 0x20), OUTSIDE);
        due("9", town.feed(9, 0x20), OUTSIDE);
        Check.type(town, " ".repeat(199));
        due("no room for two", town.feed(2, 0x2020), FULL);
        due("room for one", town.feed(1, 0x20), 200);
        due("none more", town.feed(1, 0x20), FULL);
    }

    private void draw() {
        says("Promise 3: draw int draw(): THE TEXT is drawn, and empty then: how many LOTS there are;");
        PaperTown town = new PaperTown();
        Check.type(town, "b0 0 1 1 3");
        due("three", town.draw(), 3);
        due("empty", town.count(10), 0);
        due("there are three still", town.draw(), 3);
        Check.type(town, "g5 5 1 1");
        due("one more", town.draw(), 4);
        says("-10 less the number of its FAULT.");
        String[] faults = {"x", "g20 0 1 1", "g5 5 1 1", "b0 9 1 1 9 b0 10 1 1 9 b0 11 1 1 9 b0 12 1 1 9 b0 13 1 1 1"};
        for (int k = 0; k < faults.length; k++) {
            Check.type(town, faults[k]);
            due("fault " + (k + 1), town.draw(), -11 - k);
            due("empty behind it", town.count(10), 0);
        }
    }

    private void place() {
        says("Promise 4: place int place(): The byte of the FAULT of the latest draw(); NONE.");
        PaperTown town = new PaperTown();
        due("nothing drawn", town.place(), NONE);
        Check.type(town, "g0 0 1 x");
        due("not drawn yet", town.place(), NONE);
        town.draw();
        due("at the x", town.place(), 7);
        Check.type(town, "g0 0 1 1");
        town.draw();
        due("none", town.place(), NONE);
        Check.type(town, "  x");
        town.draw();
        due("at the other x", town.place(), 2);
        town.draw();
        due("none in an empty text", town.place(), NONE);
    }

    private void cell() {
        says("Promise 5: cell int cell(int x, int y): What a CELL is: NONE grass, 0 to 39 a LOT, 100 and on a STREET "
            + "that is not vacated, 200 and on one that is.");
        PaperTown town = Check.town("b0 0 1 1 9 b0 1 1 1 9 b0 2 1 1 9 b0 3 1 1 9 b0 4 1 1 4 s0 6 0 3 s0 7 0 3");
        due("grass", town.cell(9, 0), NONE);
        due("the first lot", town.cell(0, 0), 0);
        due("the last lot", town.cell(3, 4), 39);
        due("a street", town.cell(0, 6), 100);
        due("another", town.cell(2, 7), 101);
        town.vacate(1);
        due("vacated", town.cell(2, 7), 201);
        due("the other is not", town.cell(0, 6), 100);
        says("OUTSIDE.");
        due("x 20", town.cell(20, 0), OUTSIDE);
        due("x -1", town.cell(-1, 0), OUTSIDE);
        due("y 16", town.cell(0, 16), OUTSIDE);
        due("y -1", town.cell(0, -1), OUTSIDE);
    }

    private void lot() {
        says("Promise 6: lot int lot(int l, int what): Of a LOT: what = 0 AREA, 1 OWNER, 2 whether it is a GIFT (1, 0), "
            + "3 WORTH, 4 who LIVES there (NONE), 5 what is still owed, 6 the DAY on which the next PART is due (NONE), "
            + "7 years OUT, 8 its least CELL, 9 on which DAY its OWNER got it (NONE: THE COMPANY, from the beginning).");
        PaperTown town = Check.town("b18 15 1 1 2 g9 9 2 1");
        town.person(100);
        town.person(8);
        Check.until(town, 300);
        town.give(2, 0, 9999);
        Check.buy(town, 1, 1, 33); // 8 at once, then 8, 8, 9
        allOf(town, 0, 2, NONE, 0, 25, NONE, 0, NONE, 0, 318, NONE);
        allOf(town, 1, 2, 1, 0, 25, NONE, 25, 400, 0, 319, 300);
        town.rate(100);
        Check.until(town, 365);
        allOf(town, 1, 2, 1, 0, 25, 1, 25, 400, 1, 319, 300);
        allOf(town, 2, 4, 0, 1, 40 + 200 / 19, 0, 0, NONE, 0, 189, 300);
        says("UNKNOWN, OUTSIDE.");
        due("lot 3", town.lot(3, 0), UNKNOWN);
        due("lot -1", town.lot(-1, 10), UNKNOWN);
        due("what 10", town.lot(0, 10), OUTSIDE);
        due("what -1", town.lot(0, -1), OUTSIDE);
    }

    private static void allOf(PaperTown town, int l, int... wanted) {
        for (int what = 0; what < wanted.length; what++) {
            due("lot " + l + ", " + what, town.lot(l, what), wanted[what]);
        }
    }

    private void vacate() {
        says("Promise 7: vacate int vacate(int street): A STREET is VACATED: how many of its CELLS went to LOTS.");
        PaperTown town = Check.town("g5 5 2 1 s4 6 0 9 s0 0 0 3");
        due("two", town.vacate(0), 2);
        due("they went", town.lot(0, 0), 8);
        due("vacated", town.cell(12, 6), 200);
        due("none", town.vacate(1), 0);
        says("UNKNOWN; NOT: it is.");
        due("street 2", town.vacate(2), UNKNOWN);
        due("street -1", town.vacate(-1), UNKNOWN);
        due("it is", town.vacate(0), NOT);
        due("this one too", town.vacate(1), NOT);
        due("nothing more went", town.lot(0, 0), 8);
    }

    private void halt() {
        says("Promise 8: halt int halt(int x, int y): THE HALT is at a CELL: the one ahead of that.");
        PaperTown town = new PaperTown();
        due("0 at first", town.halt(19, 15), 0);
        due("the last cell", town.halt(2, 1), 319);
        due("(2, 1)", town.halt(2, 1), 22);
        due("there", town.count(13), 22);
        says("OUTSIDE.");
        due("x 20", town.halt(20, 0), OUTSIDE);
        due("x -1", town.halt(-1, 0), OUTSIDE);
        due("y 16", town.halt(0, 16), OUTSIDE);
        due("y -1", town.halt(0, -1), OUTSIDE);
        due("it stays", town.count(13), 22);
    }

    // ---- people, sales

    private void person() {
        says("Promise 9: person int person(int money): A PERSON: the number.");
        PaperTown town = new PaperTown();
        due("the first", town.person(1000000), 0);
        due("the second", town.person(0), 1);
        due("money of the first", town.told(0, 0), 1000000);
        due("money of the second", town.told(1, 0), 0);
        says("OUTSIDE, FULL.");
        due("too much", town.person(1000001), OUTSIDE);
        due("too little", town.person(-1), OUTSIDE);
        for (int p = 2; p < 20; p++) {
            due("the next", town.person(p), p);
        }
        due("the 21st", town.person(1), FULL);
        due("the 21st with too much", town.person(1000001), OUTSIDE);
        due("twenty", town.count(2), 20);
    }

    private void money() {
        says("Promise 10: money int money(int p, int v): MONEY of a PERSON, and v more (-1000000 .. 1000000): MONEY "
            + "then.");
        PaperTown town = new PaperTown();
        town.person(10);
        due("more", town.money(0, 5), 15);
        due("less", town.money(0, -6), 9);
        due("none more", town.money(0, 0), 9);
        due("told", town.told(0, 0), 9);
        says("UNKNOWN, OUTSIDE (also: it would be out of its bounds).");
        due("who", town.money(1, 0), UNKNOWN);
        due("who, and too much", town.money(-1, 1000001), UNKNOWN);
        due("too much", town.money(0, 1000001), OUTSIDE);
        due("too little", town.money(0, -1000001), OUTSIDE);
        due("it would be above", town.money(0, 999992), OUTSIDE);
        due("it would be below", town.money(0, -10), OUTSIDE);
        due("just not above", town.money(0, 999991), 1000000);
        due("just not below", town.money(0, -1000000), 0);
        due("the most more", town.money(0, 1000000), 1000000);
    }

    private static PaperTown market() {
        PaperTown town = Check.town("b0 0 1 1 3 g9 9 1 1");
        for (int p = 0; p < 3; p++) {
            town.person(100);
        }
        return town;
    }

    private void bid() {
        says("Promise 11: bid int bid(int lot, int p, int sum): A BID (1 .. 1000000) for a LOT: how many there are.");
        PaperTown town = market();
        due("the least", town.bid(0, 0, 1), 1);
        due("the most", town.bid(0, 1, 1000000), 2);
        due("again", town.bid(0, 0, 2), 2);
        due("another lot's", town.bid(1, 0, 40), 1);
        says("UNKNOWN, OUTSIDE; NOT: it is a GIFT, or THE COMPANY does not own it.");
        due("lot", town.bid(4, 0, 1), UNKNOWN);
        due("person", town.bid(0, 3, 1), UNKNOWN);
        due("0", town.bid(0, 0, 0), OUTSIDE);
        due("too much", town.bid(0, 0, 1000001), OUTSIDE);
        due("a gift", town.bid(3, 0, 1), NOT);
        town.close(1);
        due("sold", town.bid(1, 1, 1), NOT);
    }

    private void close() {
        says("Promise 12: close int close(int lot): THE AUCTION of a LOT is closed: who buys (NONE); BIDS are gone.");
        PaperTown town = market();
        town.bid(0, 1, 41);
        town.bid(0, 2, 44);
        due("who buys", town.close(0), 2);
        due("a quarter", town.told(2, 0), 89);
        due("his", town.lot(0, 1), 2);
        due("bids are gone", town.close(0), NOT);
        town.bid(1, 0, 404);
        due("nobody", town.close(1), NONE);
        due("bids are gone", town.bid(1, 1, 4), 1);
        says("UNKNOWN; NOT: there are no BIDS.");
        due("lot 4", town.close(4), UNKNOWN);
        due("lot -1", town.close(-1), UNKNOWN);
        due("no bids", town.close(2), NOT);
        due("none for a gift", town.close(3), NOT);
    }

    private void pass() {
        says("Promise 13: pass int pass(int lot, int p): A LOT, or a GIFT, goes to another PERSON at NOW, debts with "
            + "it: 1.");
        PaperTown town = market();
        Check.buy(town, 0, 0, 40);
        town.give(3, 0, 9999);
        town.days(3);
        due("a lot", town.pass(0, 1), 1);
        due("a gift", town.pass(3, 2), 1);
        due("the lot's owner", town.lot(0, 1), 1);
        due("the gift's owner", town.lot(3, 1), 2);
        due("at now", town.lot(0, 9), 3);
        due("what he owes", town.told(1, 3), 30);
        due("what the other owes", town.told(0, 3), 0);
        due("due as it was", town.lot(0, 6), 100);
        Check.until(town, 101);
        due("he pays", town.told(1, 0), 90);
        says("UNKNOWN; NOT: THE COMPANY owns it (or the GIFT is nobody's), or it is his.");
        due("lot", town.pass(4, 0), UNKNOWN);
        due("person", town.pass(0, 3), UNKNOWN);
        due("the company's", town.pass(1, 0), NOT);
        due("his", town.pass(0, 1), NOT);
        due("nobody's gift", market().pass(3, 0), NOT);
    }

    private void give() {
        says("Promise 14: give int give(int lot, int p, int day): A GIFT goes to a PERSON, with a CONDITION for a "
            + "DAY: 1.");
        PaperTown town = market();
        town.days(5);
        due("given", town.give(3, 1, 6), 1);
        due("his", town.lot(3, 1), 1);
        town.days(2);
        due("he did not live there on day 6", town.lot(3, 9), 6);
        says("UNKNOWN; OUTSIDE: the DAY is not NOW .. 9999; NOT: it is no GIFT, or somebody has it.");
        due("lot", town.give(4, 0, 9), UNKNOWN);
        due("person", town.give(3, 3, 9), UNKNOWN);
        due("yesterday", town.give(3, 0, 6), OUTSIDE);
        due("10000", town.give(3, 0, 10000), OUTSIDE);
        due("no gift", town.give(0, 0, 9), NOT);
        due("today", town.give(3, 0, 7), 1);
        due("somebody's", town.give(3, 1, 9), NOT);
        town.days(1);
        due("the last day", town.give(3, 0, 9999), 1);
    }

    private void rate() {
        says("Promise 15: rate int rate(int v): RATE becomes v: what it was.");
        PaperTown town = new PaperTown();
        due("0 at first", town.rate(100), 0);
        due("100", town.rate(0), 100);
        due("0", town.rate(7), 0);
        says("OUTSIDE.");
        due("101", town.rate(101), OUTSIDE);
        due("-1", town.rate(-1), OUTSIDE);
        due("7 still", town.rate(7), 7);
    }

    // ---- days

    private void days() {
        says("Promise 16: days int days(int n): n DAYS (0 .. 1000) end: NOW.");
        PaperTown town = new PaperTown();
        due("none", town.days(0), 0);
        due("one", town.days(1), 1);
        due("the most", town.days(1000), 1001);
        says("OUTSIDE; NOT: it would be above 9999.");
        due("-1", town.days(-1), OUTSIDE);
        due("1001", town.days(1001), OUTSIDE);
        Check.until(town, 9990);
        due("ten", town.days(10), NOT);
        due("1001 then", town.days(1001), OUTSIDE);
        due("nine", town.days(9), 9999);
        due("one more", town.days(1), NOT);
        says("(At the end of a DAY: PARTS, TAXES, COMERS, CONDITIONS, in this order.)");
        endOfADayInItsOrder();
    }

    /** Lots 1 and 2 lie side by side: with neighbours their taxes would be 235 and 135. */
    private static void endOfADayInItsOrder() {
        PaperTown town = Check.town("b19 15 1 1 1 g0 0 1 1 g1 0 1 1 g9 9 1 1");
        for (int money : new int[] {27, 300, 300}) {
            town.person(money);
        }
        town.rate(100);
        Check.until(town, 264);
        Check.buy(town, 0, 0, 7); // 1 at once, then 2 on day 364, and a tax of 25
        town.give(1, 1, 364);
        town.give(2, 2, 364);
        town.give(3, 2, 364);
        Check.until(town, 365);
        due("parts ahead of taxes", town.lot(0, 5), 4);
        due("too few for the tax then", town.told(0, 0), 24);
        due("taxes ahead of comers", town.told(1, 0), 300 - 220);
        due("of the other too", town.told(2, 0), 300 - 120 - 30);
        due("comers ahead of conditions", town.lot(1, 1), 1);
        due("of the other's too", town.lot(2, 1), 2);
        due("where he does not live", town.lot(3, 1), NONE);
    }

    private void title() {
        says("Promise 17: title int title(int lot, int day): The OWNER of a LOT on a DAY, 0 .. NOW (behind all that was "
            + "done on it till now; NONE).");
        PaperTown town = market();
        town.days(2);
        Check.buy(town, 0, 0, 4);
        due("bought", town.title(0, 2), 0);
        town.pass(0, 2);
        due("passed the same day", town.title(0, 2), 2);
        town.days(2);
        town.pass(0, 1);
        town.days(1);
        int[] owners = {NONE, NONE, 2, 2, 1, 1};
        for (int day = 0; day < owners.length; day++) {
            due("day " + day, town.title(0, day), owners[day]);
        }
        due("another lot", town.title(1, 5), NONE);
        says("UNKNOWN, OUTSIDE.");
        due("lot", town.title(4, 0), UNKNOWN);
        due("lot, and tomorrow", town.title(-1, 6), UNKNOWN);
        due("tomorrow", town.title(0, 6), OUTSIDE);
        due("-1", town.title(0, -1), OUTSIDE);
    }

    private void told() {
        says("Promise 18: told int told(int p, int what): Of a PERSON: what = 0 MONEY, 1 LOTS that are owned, 2 on which "
            + "the PERSON LIVES (NONE), 3 what is owed in all.");
        PaperTown town = market();
        Check.until(town, 300);
        Check.buy(town, 0, 1, 40);
        Check.buy(town, 1, 1, 80);
        town.give(3, 1, 9999);
        allOfPerson(town, 1, 70, 3, NONE, 90);
        Check.until(town, 365);
        allOfPerson(town, 1, 70, 3, 0, 90);
        allOfPerson(town, 0, 100, 0, NONE, 0);
        says("UNKNOWN, OUTSIDE.");
        due("person 3", town.told(3, 0), UNKNOWN);
        due("person -1", town.told(-1, 4), UNKNOWN);
        due("what 4", town.told(0, 4), OUTSIDE);
        due("what -1", town.told(0, -1), OUTSIDE);
    }

    private static void allOfPerson(PaperTown town, int p, int... wanted) {
        for (int what = 0; what < wanted.length; what++) {
            due("told " + p + ", " + what, town.told(p, what), wanted[what]);
        }
    }

    private void count() {
        says("Promise 19: count int count(int what): How many: 0 LOTS, 1 STREETS, 2 PERSONS, 3 NOW, 4 who LIVE in the "
            + "town, 5 LOTS that THE COMPANY owns (GIFTS of nobody too), 6 LOTS FORFEIT so far, 7 LOTS taken for TAXES so "
            + "far, 8 what THE COMPANY got for LOTS, 9 TAXES paid so far, 10 bytes of THE TEXT, 11 changes of titles, "
            + "12 AREA of all LOTS, 13 the CELL of THE HALT.");
        PaperTown town = Check.town("b18 15 1 1 2 g0 0 1 2 g9 9 1 1 s18 14 0 1");
        town.person(60);
        town.person(0);
        town.person(0);
        Check.buy(town, 0, 0, 12); // 3 at once, then 3, 3, 3
        Check.buy(town, 1, 1, 3); // nothing at once, then 1, and forfeit on day 130
        town.give(3, 2, 9999); // taken on day 729: the second year out
        town.rate(10); // of 25 and 30: 5; of 20 and 10: 3, which stays out
        town.halt(1, 0);
        Check.until(town, 730);
        town.pass(0, 1);
        town.feed(2, 0x2020);
        town.vacate(0);
        int[] wanted = {4, 1, 3, 730, 0, 3, 1, 1, 12, 10, 2, 6, 12, 1};
        for (int what = 0; what < wanted.length; what++) {
            due("count " + what, town.count(what), wanted[what]);
        }
        town.pass(0, 0);
        Check.until(town, 1095);
        due("one lives there", town.count(4), 1);
        says("OUTSIDE. (As ints.)");
        due("14", town.count(14), OUTSIDE);
        due("-1", town.count(-1), OUTSIDE);
    }

    private void bond() {
        says("Promise 20: bond int bond(int sum, int what): A BOND for a sum (1 .. 1000000): what = 0 how many say yes, "
            + "1 whether it is taken (1, 0).");
        Check.Story settled = town -> {
            Check.type(town, "g0 0 1 1 g5 5 1 1 g9 9 1 1");
            town.draw();
            for (int p = 0; p < 3; p++) {
                town.person(1000000 - 300000 * p);
                town.give(p, p, 9999);
            }
            Check.until(town, 365);
        };
        PaperTown town = Check.toldTown(settled);
        due("the least", town.bond(1, 0), 3);
        due("all of them", town.bond(120000, 0), 3);
        due("two", town.bond(210000, 0), 2);
        due("taken by two", town.bond(210000, 1), 1);
        due("one", town.bond(300000, 0), 1);
        due("not taken by one", town.bond(300000, 1), 0);
        due("the most", town.bond(1000000, 0), 0);
        says("OUTSIDE.");
        due("0", town.bond(0, 0), OUTSIDE);
        due("too much", town.bond(1000001, 1), OUTSIDE);
        due("what 2", town.bond(1, 2), OUTSIDE);
        due("what -1", town.bond(1, -1), OUTSIDE);
        says("(Nothing is changed.)");
        Check.Story votes = other -> {
            other.bond(120000, 0);
            other.bond(120000, 1);
            other.bond(1000000, 1);
        };
        due("the same", Check.state(settled).equals(Check.state(settled, votes)) ? 1 : 0, 1);
    }

    private void notPromised() {
        says("Not promised How the state is held inside the object is free, as are the speed of each call, the text of "
            + "toString and the behaviour of equals and hashCode.");
        says("Use of one object from several threads at once is not promised to be safe.");
        says("Nothing is promised beyond the answers and state changes described above, and nothing about an object "
            + "after its 512th call.");
    }

    private static void due(String call, long got, long want) {
        CHECK.due(call, got, want);
    }
}
