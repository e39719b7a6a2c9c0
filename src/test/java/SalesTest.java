/** Promises 9 to 15: person, money, bid, close, pass, give, rate. */
public final class SalesTest {
    private static final Check CHECK = new Check();

    public static void main(String[] args) {
        persons();
        moneyMoves();
        bids();
        bidRefuses();
        closeByGreatest();
        closePassesOverThePoor();
        closeOwes();
        passCarriesDebts();
        passRefuses();
        gives();
        giveRefuses();
        rates();
        CHECK.end();
    }

    private static void persons() {
        PaperTown town = new PaperTown();
        CHECK.due("less than none", town.person(-1), PaperTown.OUTSIDE);
        CHECK.due("too much", town.person(1000001), PaperTown.OUTSIDE);
        for (int p = 0; p < 20; p++) {
            CHECK.due("person", town.person(p == 0 ? 1000000 : p), p);
        }
        CHECK.due("the 21st", town.person(0), PaperTown.FULL);
        CHECK.due("outside ahead of full", town.person(-1), PaperTown.OUTSIDE);
        CHECK.due("persons", town.count(2), 20);
        CHECK.due("money of 0", town.told(0, 0), 1000000);
        CHECK.due("money of 19", town.told(19, 0), 19);
    }

    private static void moneyMoves() {
        PaperTown town = new PaperTown();
        town.person(10);
        CHECK.due("more", town.money(0, 5), 15);
        CHECK.due("less", town.money(0, -15), 0);
        CHECK.due("below", town.money(0, -1), PaperTown.OUTSIDE);
        CHECK.due("all", town.money(0, 1000000), 1000000);
        CHECK.due("above", town.money(0, 1), PaperTown.OUTSIDE);
        CHECK.due("none", town.money(0, -1000000), 0);
        CHECK.due("v above", town.money(0, 1000001), PaperTown.OUTSIDE);
        CHECK.due("v below", town.money(0, -1000001), PaperTown.OUTSIDE);
        CHECK.due("v most", town.money(0, Integer.MAX_VALUE), PaperTown.OUTSIDE);
        CHECK.due("v least", town.money(0, Integer.MIN_VALUE), PaperTown.OUTSIDE);
        CHECK.due("who", town.money(1, 5), PaperTown.UNKNOWN);
        CHECK.due("who -1", town.money(-1, 5), PaperTown.UNKNOWN);
        CHECK.due("unknown ahead of outside", town.money(1, 1000001), PaperTown.UNKNOWN);
        CHECK.due("unchanged", town.money(0, 0), 0);
    }

    private static PaperTown market() {
        PaperTown town = Check.town("b0 0 1 1 3 g5 5 1 1");
        town.person(100);
        town.person(100);
        town.person(10);
        return town;
    }

    private static void bids() {
        PaperTown town = market();
        CHECK.due("one", town.bid(0, 0, 1), 1);
        CHECK.due("another lot", town.bid(1, 0, 1000000), 1);
        CHECK.due("two", town.bid(0, 1, 5), 2);
        CHECK.due("again", town.bid(0, 0, 3), 2);
        CHECK.due("three", town.bid(0, 2, 3), 3);
        CHECK.due("no money is asked yet", town.told(0, 0), 100);
    }

    private static void bidRefuses() {
        PaperTown town = market();
        CHECK.due("lot", town.bid(4, 0, 1), PaperTown.UNKNOWN);
        CHECK.due("lot -1", town.bid(-1, 0, 1), PaperTown.UNKNOWN);
        CHECK.due("who", town.bid(0, 3, 1), PaperTown.UNKNOWN);
        CHECK.due("who -1", town.bid(0, -1, 1), PaperTown.UNKNOWN);
        CHECK.due("unknown ahead of outside", town.bid(0, 3, 0), PaperTown.UNKNOWN);
        CHECK.due("0", town.bid(0, 0, 0), PaperTown.OUTSIDE);
        CHECK.due("too much", town.bid(0, 0, 1000001), PaperTown.OUTSIDE);
        CHECK.due("outside ahead of not", town.bid(3, 0, 0), PaperTown.OUTSIDE);
        CHECK.due("gift", town.bid(3, 0, 1), PaperTown.NOT);
        Check.buy(town, 0, 0, 4);
        CHECK.due("owned", town.bid(0, 1, 5), PaperTown.NOT);
        CHECK.due("owned by himself", town.bid(0, 0, 5), PaperTown.NOT);
        CHECK.due("none came in", town.close(0), PaperTown.NOT);
    }

    private static void closeByGreatest() {
        PaperTown town = market();
        town.bid(0, 0, 40);
        town.bid(0, 1, 40);
        CHECK.due("of like ones the first", town.close(0), 0);
        town.bid(1, 0, 40);
        town.bid(1, 1, 40);
        town.bid(1, 0, 40);
        CHECK.due("a later one stands behind", town.close(1), 1);
        town.bid(2, 0, 44);
        town.bid(2, 1, 40);
        town.bid(2, 0, 39);
        CHECK.due("the one ahead is gone", town.close(2), 1);
        CHECK.due("closed", town.close(2), PaperTown.NOT);
        CHECK.due("no lot", town.close(4), PaperTown.UNKNOWN);
        CHECK.due("no lot -1", town.close(-1), PaperTown.UNKNOWN);
        CHECK.due("a gift has no bids", town.close(3), PaperTown.NOT);
        CHECK.due("money of 0", town.told(0, 0), 90);
        CHECK.due("money of 1", town.told(1, 0), 80);
        CHECK.due("the company got", town.count(8), 30);
        CHECK.due("titles", town.count(11), 3);
    }

    private static void closePassesOverThePoor() {
        PaperTown town = market();
        town.bid(0, 2, 44);
        CHECK.due("nobody", town.close(0), PaperTown.NONE);
        CHECK.due("bids are gone", town.close(0), PaperTown.NOT);
        CHECK.due("nothing paid", town.told(2, 0), 10);
        CHECK.due("no title", town.count(11), 0);
        town.bid(0, 2, 44);
        town.bid(0, 0, 404);
        town.bid(0, 1, 20);
        CHECK.due("the third", town.close(0), 1);
        town.bid(1, 2, 43);
        CHECK.due("a quarter is cut", town.close(1), 2);
        CHECK.due("all he had", town.told(2, 0), 0);
        town.bid(2, 2, 3);
        CHECK.due("a quarter of nothing", town.close(2), 2);
    }

    private static void closeOwes() {
        PaperTown town = market();
        town.days(7);
        Check.buy(town, 0, 0, 203); // 50, then 51, 51, 51
        CHECK.due("owner", town.lot(0, 1), 0);
        CHECK.due("as of", town.lot(0, 9), 7);
        CHECK.due("owed", town.lot(0, 5), 153);
        CHECK.due("due", town.lot(0, 6), 107);
        CHECK.due("paid", town.told(0, 0), 50);
        CHECK.due("got", town.count(8), 50);
        CHECK.due("owed in all", town.told(0, 3), 153);
        CHECK.due("nobody lives there yet", town.lot(0, 4), PaperTown.NONE);
        CHECK.due("company's", town.count(5), 3);
    }

    private static void passCarriesDebts() {
        PaperTown town = market();
        Check.buy(town, 0, 0, 40); // 10, then 10, 10, 10
        town.days(5);
        CHECK.due("pass", town.pass(0, 1), 1);
        CHECK.due("owner", town.lot(0, 1), 1);
        CHECK.due("as of", town.lot(0, 9), 5);
        CHECK.due("owed", town.lot(0, 5), 30);
        CHECK.due("due", town.lot(0, 6), 100);
        CHECK.due("not his any more", town.told(0, 3), 0);
        CHECK.due("his", town.told(1, 3), 30);
        CHECK.due("titles", town.count(11), 2);
        Check.until(town, 301);
        CHECK.due("he paid nothing", town.told(0, 0), 90);
        CHECK.due("the other paid", town.told(1, 0), 70);
        town.rate(100);
        town.money(1, -70);
        Check.until(town, 365);
        CHECK.due("a year out", town.lot(0, 7), 1);
        CHECK.due("he lives there", town.lot(0, 4), 1);
        town.pass(0, 2);
        CHECK.due("it goes along", town.lot(0, 7), 1);
        CHECK.due("he lives nowhere", town.told(1, 2), PaperTown.NONE);
        CHECK.due("nobody lives there", town.lot(0, 4), PaperTown.NONE);
        Check.until(town, 730);
        CHECK.due("the second year", town.lot(0, 1), PaperTown.NONE);
    }

    private static void passRefuses() {
        PaperTown town = market();
        CHECK.due("the company's", town.pass(0, 0), PaperTown.NOT);
        CHECK.due("nobody's gift", town.pass(3, 0), PaperTown.NOT);
        CHECK.due("lot", town.pass(4, 0), PaperTown.UNKNOWN);
        CHECK.due("lot -1", town.pass(-1, 0), PaperTown.UNKNOWN);
        CHECK.due("who", town.pass(0, 3), PaperTown.UNKNOWN);
        CHECK.due("not to the company", town.pass(0, -1), PaperTown.UNKNOWN);
        Check.buy(town, 0, 0, 40);
        CHECK.due("his own", town.pass(0, 0), PaperTown.NOT);
        CHECK.due("titles", town.count(11), 1);
        town.give(3, 0, 10);
        CHECK.due("a gift", town.pass(3, 1), 1);
        CHECK.due("on the day itself it goes back", town.lot(3, 1), 1);
    }

    private static void gives() {
        PaperTown town = market();
        town.days(3);
        CHECK.due("give", town.give(3, 1, 3), 1);
        CHECK.due("owner", town.lot(3, 1), 1);
        CHECK.due("as of", town.lot(3, 9), 3);
        CHECK.due("nothing is owed", town.lot(3, 5), 0);
        CHECK.due("nothing is due", town.lot(3, 6), PaperTown.NONE);
        CHECK.due("company's", town.count(5), 3);
        town.days(1);
        CHECK.due("back", town.lot(3, 1), PaperTown.NONE);
        CHECK.due("as of 3", town.lot(3, 9), 3);
        CHECK.due("again", town.give(3, 2, 9999), 1);
        CHECK.due("titles", town.count(11), 3);
    }

    private static void giveRefuses() {
        PaperTown town = market();
        town.days(10);
        CHECK.due("lot", town.give(4, 0, 10), PaperTown.UNKNOWN);
        CHECK.due("lot -1", town.give(-1, 0, 10), PaperTown.UNKNOWN);
        CHECK.due("who", town.give(3, 3, 10), PaperTown.UNKNOWN);
        CHECK.due("who -1", town.give(3, -1, 10), PaperTown.UNKNOWN);
        CHECK.due("unknown ahead of outside", town.give(3, 3, 9), PaperTown.UNKNOWN);
        CHECK.due("before now", town.give(3, 0, 9), PaperTown.OUTSIDE);
        CHECK.due("10000", town.give(3, 0, 10000), PaperTown.OUTSIDE);
        CHECK.due("outside ahead of not", town.give(0, 0, 9), PaperTown.OUTSIDE);
        CHECK.due("no gift", town.give(0, 0, 10), PaperTown.NOT);
        CHECK.due("given", town.give(3, 0, 10), 1);
        CHECK.due("somebody's", town.give(3, 1, 10), PaperTown.NOT);
        CHECK.due("his", town.give(3, 0, 11), PaperTown.NOT);
        town.days(1);
        CHECK.due("the first day told holds", town.lot(3, 1), PaperTown.NONE);
    }

    private static void rates() {
        PaperTown town = new PaperTown();
        CHECK.due("first", town.rate(100), 0);
        CHECK.due("101", town.rate(101), PaperTown.OUTSIDE);
        CHECK.due("-1", town.rate(-1), PaperTown.OUTSIDE);
        CHECK.due("second", town.rate(0), 100);
        CHECK.due("third", town.rate(7), 0);
    }
}
