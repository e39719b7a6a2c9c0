/** Promises 9 to 15 and the terms of auctions, at their edges: one test for each sentence that names one. */
public final class SalesEdgesTest {
    private static final Check CHECK = new Check();
    private static final int LEAST = Integer.MIN_VALUE, MOST = Integer.MAX_VALUE, ALL = 1000000;
    private static final String FORTY = "b0 0 1 1 9 b0 1 1 1 9 b0 2 1 1 9 b0 3 1 1 9 b0 4 1 1 4";

    public static void main(String[] args) {
        moneyOfANewPerson();
        twentyPersons();
        moneyOfWhom();
        moneyMoreAndLess();
        moneyStaysInItsBounds();
        bidsForLotsThatThereAre();
        bidsOfPersonsThatThereAre();
        sumsOfBids();
        bidForAGift();
        bidForAnOwnedLot();
        refusalsOfBidInTheirOrder();
        oneBidEach();
        bidOfOneAgainAndAgain();
        bidsOfEachLot();
        closeWithoutBids();
        closeTheGreatest();
        closeOfLikeOnesTheFirst();
        closeALaterBidIsToldLater();
        closeWithJustAQuarter();
        closeAsksTheNext();
        closeNobodyBuys();
        quarterIsCut();
        restInThreeParts();
        closeAsOfNow();
        closeOnTheLastDay();
        passOfLotsAndPersons();
        passWhatNobodyOwns();
        passWhatIsHis();
        passAtNow();
        passDebtsWithIt();
        giveOfLotsAndPersons();
        giveForADay();
        giveNoGift();
        giveWhatSomebodyHas();
        refusalsOfGiveInTheirOrder();
        ratesInTheirBounds();
        CHECK.end();
    }

    // ---- person, money

    private static void moneyOfANewPerson() {
        PaperTown town = new PaperTown();
        for (int money : new int[] {LEAST, -1000000, -1, 1000001, MOST}) {
            CHECK.due("person with " + money, town.person(money), PaperTown.OUTSIDE);
            CHECK.due("none came", town.count(2), 0);
        }
        CHECK.due("with 0", town.person(0), 0);
        CHECK.due("with all", town.person(ALL), 1);
        CHECK.due("has 0", town.told(0, 0), 0);
        CHECK.due("has all", town.told(1, 0), ALL);
    }

    private static void twentyPersons() {
        PaperTown town = new PaperTown();
        for (int p = 0; p < 20; p++) {
            CHECK.due("person", town.person(p), p);
        }
        CHECK.due("the 21st", town.person(0), PaperTown.FULL);
        CHECK.due("the 21st again", town.person(ALL), PaperTown.FULL);
        CHECK.due("outside ahead of full", town.person(-1), PaperTown.OUTSIDE);
        CHECK.due("outside ahead of full, above", town.person(1000001), PaperTown.OUTSIDE);
        CHECK.due("twenty", town.count(2), 20);
        CHECK.due("the last one's money", town.told(19, 0), 19);
        CHECK.due("no number 20", town.told(20, 0), PaperTown.UNKNOWN);
    }

    private static void moneyOfWhom() {
        PaperTown town = new PaperTown();
        CHECK.due("nobody there yet", town.money(0, 0), PaperTown.UNKNOWN);
        for (int p = 0; p < 20; p++) {
            town.person(p);
        }
        CHECK.due("the first", town.money(0, 0), 0);
        CHECK.due("the last", town.money(19, 0), 19);
        for (int p : new int[] {LEAST, -1, 20, 21, MOST}) {
            CHECK.due("money of " + p, town.money(p, 1), PaperTown.UNKNOWN);
            CHECK.due("unknown ahead of outside, " + p, town.money(p, MOST), PaperTown.UNKNOWN);
        }
    }

    private static void moneyMoreAndLess() {
        PaperTown town = new PaperTown();
        town.person(0);
        CHECK.due("the most", town.money(0, 1000000), ALL);
        CHECK.due("the least", town.money(0, -1000000), 0);
        town.money(0, 500000);
        for (int v : new int[] {LEAST, -1000001, 1000001, MOST, LEAST + 500000, MOST - 499999}) {
            CHECK.due("money " + v, town.money(0, v), PaperTown.OUTSIDE);
        }
        CHECK.due("nothing more", town.money(0, 0), 500000);
    }

    private static void moneyStaysInItsBounds() {
        PaperTown town = new PaperTown();
        town.person(7);
        CHECK.due("below", town.money(0, -8), PaperTown.OUTSIDE);
        CHECK.due("to 0", town.money(0, -7), 0);
        CHECK.due("below 0", town.money(0, -1), PaperTown.OUTSIDE);
        CHECK.due("one", town.money(0, 1), 1);
        CHECK.due("above", town.money(0, 1000000), PaperTown.OUTSIDE);
        CHECK.due("to the most", town.money(0, 999999), ALL);
        CHECK.due("above the most", town.money(0, 1), PaperTown.OUTSIDE);
        CHECK.due("as it was", town.told(0, 0), ALL);
    }

    // ---- bid

    private static PaperTown market(int... moneys) {
        PaperTown town = Check.town("b0 0 1 1 3 g9 9 1 1");
        for (int money : moneys) {
            town.person(money);
        }
        return town;
    }

    private static void bidsForLotsThatThereAre() {
        PaperTown empty = new PaperTown();
        empty.person(5);
        CHECK.due("no lot there yet", empty.bid(0, 0, 1), PaperTown.UNKNOWN);
        PaperTown town = Check.town(FORTY);
        town.person(5);
        CHECK.due("the first", town.bid(0, 0, 1), 1);
        CHECK.due("the last", town.bid(39, 0, 1), 1);
        for (int l : new int[] {LEAST, -1, 40, MOST}) {
            CHECK.due("lot " + l, town.bid(l, 0, 1), PaperTown.UNKNOWN);
            CHECK.due("close " + l, town.close(l), PaperTown.UNKNOWN);
        }
    }

    private static void bidsOfPersonsThatThereAre() {
        PaperTown town = market();
        CHECK.due("nobody there yet", town.bid(0, 0, 1), PaperTown.UNKNOWN);
        town.person(5);
        CHECK.due("the company bids not", town.bid(0, -1, 1), PaperTown.UNKNOWN);
        for (int p : new int[] {LEAST, 1, 20, MOST}) {
            CHECK.due("person " + p, town.bid(0, p, 1), PaperTown.UNKNOWN);
        }
        CHECK.due("no bid came in", town.close(0), PaperTown.NOT);
    }

    private static void sumsOfBids() {
        PaperTown town = market(ALL);
        for (int sum : new int[] {LEAST, -1, 0, 1000001, MOST}) {
            CHECK.due("sum " + sum, town.bid(0, 0, sum), PaperTown.OUTSIDE);
            CHECK.due("none came in", town.close(0), PaperTown.NOT);
        }
        CHECK.due("the least", town.bid(0, 0, 1), 1);
        CHECK.due("the most", town.bid(1, 0, 1000000), 1);
        town.close(0);
        town.close(1);
        CHECK.due("owed of the least", town.lot(0, 5), 1);
        CHECK.due("owed of the most", town.lot(1, 5), 750000);
    }

    private static void bidForAGift() {
        PaperTown town = market(5, 5);
        CHECK.due("nobody's", town.bid(3, 0, 1), PaperTown.NOT);
        town.give(3, 0, 9999);
        CHECK.due("somebody's", town.bid(3, 1, 1), PaperTown.NOT);
        CHECK.due("no bid for it", town.close(3), PaperTown.NOT);
    }

    private static void bidForAnOwnedLot() {
        PaperTown town = market(5, 5);
        Check.buy(town, 0, 0, 1);
        CHECK.due("another's", town.bid(0, 1, 1), PaperTown.NOT);
        CHECK.due("his own", town.bid(0, 0, 1), PaperTown.NOT);
        CHECK.due("no bids", town.close(0), PaperTown.NOT);
        town.money(0, -5);
        Check.until(town, 331);
        CHECK.due("the company's again", town.lot(0, 1), PaperTown.NONE);
        CHECK.due("open again", town.bid(0, 0, 1), 1);
    }

    private static void refusalsOfBidInTheirOrder() {
        PaperTown town = market(5);
        CHECK.due("lot, sum", town.bid(4, 0, 0), PaperTown.UNKNOWN);
        CHECK.due("person, sum", town.bid(0, 1, 0), PaperTown.UNKNOWN);
        CHECK.due("person, gift", town.bid(3, 1, 1), PaperTown.UNKNOWN);
        CHECK.due("person, sum, gift", town.bid(3, 1, 0), PaperTown.UNKNOWN);
        CHECK.due("sum, gift", town.bid(3, 0, 1000001), PaperTown.OUTSIDE);
        Check.buy(town, 0, 0, 1);
        CHECK.due("sum, owned", town.bid(0, 0, 0), PaperTown.OUTSIDE);
        CHECK.due("person, owned", town.bid(0, 1, 1), PaperTown.UNKNOWN);
    }

    private static void oneBidEach() {
        PaperTown town = Check.town("b0 0 1 1 1");
        for (int p = 0; p < 20; p++) {
            town.person(ALL);
        }
        for (int p = 0; p < 20; p++) {
            CHECK.due("bid of " + p, town.bid(0, p, 100 + p), p + 1);
        }
        CHECK.due("the last one's at once again", town.bid(0, 19, 200), 20);
        for (int p = 0; p < 20; p++) {
            CHECK.due("later bid of " + p, town.bid(0, p, 100 - p), 20);
        }
        CHECK.due("the greatest of the later ones", town.close(0), 0);
        CHECK.due("for that sum", town.lot(0, 5), 75);
    }

    private static void bidOfOneAgainAndAgain() {
        PaperTown town = market(99);
        for (int sum = 40; sum >= 8; sum -= 8) {
            CHECK.due("the only bid, of " + sum, town.bid(0, 0, sum), 1);
        }
        CHECK.due("closed", town.close(0), 0);
        CHECK.due("for the last sum", town.lot(0, 5), 6);
    }

    private static void bidsOfEachLot() {
        PaperTown town = market(9, 9);
        CHECK.due("one", town.bid(0, 0, 4), 1);
        CHECK.due("another lot", town.bid(1, 0, 8), 1);
        CHECK.due("a second one there", town.bid(1, 1, 12), 2);
        CHECK.due("closed for itself", town.close(0), 0);
        CHECK.due("the other's are still there", town.bid(1, 0, 16), 2);
        CHECK.due("closed", town.close(1), 0);
    }

    // ---- close

    private static void closeWithoutBids() {
        PaperTown empty = new PaperTown();
        CHECK.due("no lot there yet", empty.close(0), PaperTown.UNKNOWN);
        PaperTown town = market(5);
        CHECK.due("no bids yet", town.close(0), PaperTown.NOT);
        CHECK.due("no bids for a gift", town.close(3), PaperTown.NOT);
        town.bid(0, 0, 4);
        CHECK.due("none for the next", town.close(1), PaperTown.NOT);
        CHECK.due("closed", town.close(0), 0);
        CHECK.due("closed again", town.close(0), PaperTown.NOT);
    }

    private static void closeTheGreatest() {
        PaperTown town = market(99, 99, 99);
        town.bid(0, 0, 11);
        town.bid(0, 1, 12);
        town.bid(0, 2, 10);
        CHECK.due("in the middle", town.close(0), 1);
        town.bid(1, 0, 10);
        town.bid(1, 1, 11);
        town.bid(1, 2, 12);
        CHECK.due("the last", town.close(1), 2);
        town.bid(2, 0, 12);
        town.bid(2, 1, 11);
        town.bid(2, 2, 10);
        CHECK.due("the first", town.close(2), 0);
    }

    private static void closeOfLikeOnesTheFirst() {
        PaperTown town = market(99, 99, 99);
        town.bid(0, 2, 10);
        town.bid(0, 0, 10);
        town.bid(0, 1, 10);
        CHECK.due("the first told, not the first number", town.close(0), 2);
    }

    private static void closeALaterBidIsToldLater() {
        PaperTown town = market(99, 99, 99);
        town.bid(0, 0, 10);
        town.bid(0, 1, 10);
        town.bid(0, 0, 10);
        CHECK.due("the like sum told again", town.close(0), 1);
        town.bid(1, 0, 10);
        town.bid(1, 1, 12);
        town.bid(1, 0, 12);
        CHECK.due("raised to the other's", town.close(1), 1);
        town.bid(2, 0, 12);
        town.bid(2, 1, 10);
        town.bid(2, 0, 9);
        CHECK.due("a lower one takes its place too", town.close(2), 1);
    }

    private static void closeWithJustAQuarter() {
        PaperTown just = market(250000);
        just.bid(0, 0, 1000000);
        CHECK.due("just so much", just.close(0), 0);
        CHECK.due("all of it is paid", just.told(0, 0), 0);
        CHECK.due("the company got it", just.count(8), 250000);
        PaperTown less = market(249999);
        less.bid(0, 0, 1000000);
        CHECK.due("one less", less.close(0), PaperTown.NONE);
        CHECK.due("nothing is paid", less.told(0, 0), 249999);
        PaperTown cut = market(249999);
        cut.bid(0, 0, 999999);
        CHECK.due("a quarter, cut", cut.close(0), 0);
        CHECK.due("all of that", cut.told(0, 0), 0);
    }

    private static void closeAsksTheNext() {
        PaperTown town = market(24, 9, 5, 5);
        town.bid(0, 0, 100);
        town.bid(0, 1, 40);
        town.bid(0, 2, 20);
        town.bid(0, 3, 20);
        CHECK.due("the third, ahead of the like one", town.close(0), 2);
        CHECK.due("for his sum", town.lot(0, 5), 15);
        CHECK.due("the first keeps all", town.told(0, 0), 24);
        CHECK.due("the second too", town.told(1, 0), 9);
        CHECK.due("the fourth too", town.told(3, 0), 5);
        town.bid(1, 2, 20);
        town.bid(1, 3, 20);
        CHECK.due("of like ones the next", town.close(1), 3);
    }

    private static void closeNobodyBuys() {
        PaperTown town = market(0, 0);
        town.bid(0, 0, 4);
        town.bid(0, 1, 1000000);
        CHECK.due("none is left", town.close(0), PaperTown.NONE);
        CHECK.due("bids are gone", town.close(0), PaperTown.NOT);
        CHECK.due("the company's", town.lot(0, 1), PaperTown.NONE);
        CHECK.due("from the beginning", town.lot(0, 9), PaperTown.NONE);
        CHECK.due("no title changed", town.count(11), 0);
        CHECK.due("nothing is owed", town.lot(0, 5), 0);
        CHECK.due("a new bid is the first", town.bid(0, 0, 3), 1);
        CHECK.due("a quarter of 3 is nothing", town.close(0), 0);
    }

    private static void quarterIsCut() {
        int[][] due = {{1, 0, 1}, {3, 0, 3}, {4, 1, 3}, {7, 1, 6}, {8, 2, 6}, {999999, 249999, 750000},
            {1000000, 250000, 750000}};
        for (int[] row : due) {
            PaperTown town = market(ALL);
            Check.buy(town, 0, 0, row[0]);
            CHECK.due("paid of " + row[0], town.told(0, 0), ALL - row[1]);
            CHECK.due("got of " + row[0], town.count(8), row[1]);
            CHECK.due("owed of " + row[0], town.lot(0, 5), row[2]);
        }
    }

    /** The rest is 1, 2, 3, 6, 7, 8: a third of it, cut, twice, and what is left over. */
    private static void restInThreeParts() {
        int[][] due = {{1, 1, 1, 1}, {2, 2, 2, 2}, {3, 3, 2, 1}, {8, 6, 4, 2}, {9, 7, 5, 3}, {10, 8, 6, 4}};
        for (int[] row : due) {
            PaperTown town = market(ALL);
            Check.buy(town, 0, 0, row[0]);
            CHECK.due("due of " + row[0], town.lot(0, 6), 100);
            for (int k = 1; k <= 3; k++) {
                CHECK.due("owed " + k + " of " + row[0], town.lot(0, 5), row[k]);
                CHECK.due("due " + k + " of " + row[0], town.lot(0, 6), 100 * k);
                Check.until(town, 100 * k + 1);
            }
            CHECK.due("nothing owed of " + row[0], town.lot(0, 5), 0);
            CHECK.due("nothing due of " + row[0], town.lot(0, 6), PaperTown.NONE);
            CHECK.due("all paid of " + row[0], town.told(0, 0), ALL - row[0]);
            CHECK.due("all got of " + row[0], town.count(8), row[0]);
        }
    }

    private static void closeAsOfNow() {
        PaperTown town = market(5);
        town.bid(0, 0, 4);
        town.days(3);
        CHECK.due("bids stay over days", town.close(0), 0);
        CHECK.due("as of now, not of the bid", town.lot(0, 9), 3);
        CHECK.due("not the day ahead", town.title(0, 2), PaperTown.NONE);
        CHECK.due("this day", town.title(0, 3), 0);
        CHECK.due("due from now", town.lot(0, 6), 103);
        CHECK.due("nobody lives there yet", town.lot(0, 4), PaperTown.NONE);
    }

    private static void closeOnTheLastDay() {
        PaperTown town = market(5);
        Check.until(town, 9999);
        town.bid(0, 0, 4);
        CHECK.due("sold", town.close(0), 0);
        CHECK.due("as of", town.lot(0, 9), 9999);
        CHECK.due("owned", town.title(0, 9999), 0);
        CHECK.due("not the day ahead", town.title(0, 9998), PaperTown.NONE);
        CHECK.due("a hundred days on", town.lot(0, 6), 10099);
    }

    // ---- pass

    private static void passOfLotsAndPersons() {
        PaperTown empty = new PaperTown();
        CHECK.due("nothing there yet", empty.pass(0, 0), PaperTown.UNKNOWN);
        PaperTown town = market(5, 5);
        Check.buy(town, 0, 0, 4);
        for (int n : new int[] {LEAST, -1, 4, 20, 40, MOST}) {
            CHECK.due("lot " + n, town.pass(n, 1), PaperTown.UNKNOWN);
            CHECK.due("person " + n, town.pass(0, n), PaperTown.UNKNOWN);
            CHECK.due("unknown ahead of not, " + n, town.pass(1, n), PaperTown.UNKNOWN);
        }
        CHECK.due("person behind the last", town.pass(0, 2), PaperTown.UNKNOWN);
        CHECK.due("his", town.lot(0, 1), 0);
        CHECK.due("one title", town.count(11), 1);
    }

    private static void passWhatNobodyOwns() {
        PaperTown town = market(5, 5);
        CHECK.due("the company's", town.pass(0, 0), PaperTown.NOT);
        CHECK.due("nobody's gift", town.pass(3, 0), PaperTown.NOT);
        town.give(3, 0, 0);
        CHECK.due("somebody's gift", town.pass(3, 1), 1);
        town.days(1);
        CHECK.due("nobody's again", town.pass(3, 0), PaperTown.NOT);
    }

    private static void passWhatIsHis() {
        PaperTown town = market(5, 5);
        Check.buy(town, 0, 0, 4);
        CHECK.due("his own", town.pass(0, 0), PaperTown.NOT);
        CHECK.due("no title changed", town.count(11), 1);
        CHECK.due("to the other", town.pass(0, 1), 1);
        CHECK.due("the other's own", town.pass(0, 1), PaperTown.NOT);
        CHECK.due("and back", town.pass(0, 0), 1);
        CHECK.due("three titles", town.count(11), 3);
    }

    private static void passAtNow() {
        PaperTown town = market(5, 5);
        Check.buy(town, 0, 0, 4);
        town.days(1);
        town.pass(0, 1);
        CHECK.due("as of", town.lot(0, 9), 1);
        CHECK.due("the day ahead", town.title(0, 0), 0);
        CHECK.due("now", town.title(0, 1), 1);
        CHECK.due("he has none", town.told(0, 1), 0);
        CHECK.due("the other has one", town.told(1, 1), 1);
        CHECK.due("no money goes", town.told(1, 0), 5);
    }

    private static void passDebtsWithIt() {
        PaperTown town = market(5, 3);
        Check.buy(town, 0, 0, 4);
        Check.until(town, 100);
        town.pass(0, 1);
        CHECK.due("still owed", town.lot(0, 5), 3);
        CHECK.due("due as it was", town.lot(0, 6), 100);
        town.days(1);
        CHECK.due("paid on the day of passing by the new one", town.told(1, 0), 2);
        CHECK.due("not by the old one", town.told(0, 0), 4);
        town.money(1, -2);
        Check.until(town, 225);
        town.pass(0, 0);
        town.money(0, -4);
        town.pass(0, 1);
        Check.until(town, 231);
        CHECK.due("the days that it stayed out count on", town.lot(0, 1), PaperTown.NONE);
    }

    // ---- give

    private static void giveOfLotsAndPersons() {
        PaperTown empty = new PaperTown();
        CHECK.due("nothing there yet", empty.give(0, 0, 0), PaperTown.UNKNOWN);
        PaperTown town = market(5);
        for (int n : new int[] {LEAST, -1, 4, 20, 40, MOST}) {
            CHECK.due("lot " + n, town.give(n, 0, 0), PaperTown.UNKNOWN);
            CHECK.due("person " + n, town.give(3, n, 0), PaperTown.UNKNOWN);
        }
        CHECK.due("person behind the last", town.give(3, 1, 0), PaperTown.UNKNOWN);
        CHECK.due("nobody's still", town.lot(3, 1), PaperTown.NONE);
        CHECK.due("given", town.give(3, 0, 0), 1);
    }

    private static void giveForADay() {
        PaperTown town = Check.town("g0 0 1 1 g2 0 1 1 g4 0 1 1");
        town.person(0);
        CHECK.due("before the first day", town.give(0, 0, -1), PaperTown.OUTSIDE);
        town.days(10);
        for (int day : new int[] {LEAST, -1, 0, 9, 10000, MOST}) {
            CHECK.due("day " + day, town.give(0, 0, day), PaperTown.OUTSIDE);
            CHECK.due("nobody's", town.lot(0, 1), PaperTown.NONE);
        }
        CHECK.due("now", town.give(0, 0, 10), 1);
        CHECK.due("the last day", town.give(1, 0, 9999), 1);
        Check.until(town, 9999);
        CHECK.due("yesterday", town.give(2, 0, 9998), PaperTown.OUTSIDE);
        CHECK.due("behind the last day", town.give(2, 0, 10000), PaperTown.OUTSIDE);
        CHECK.due("now, the last day", town.give(2, 0, 9999), 1);
        CHECK.due("as of", town.lot(2, 9), 9999);
    }

    private static void giveNoGift() {
        PaperTown town = market(5);
        CHECK.due("the company's lot", town.give(0, 0, 0), PaperTown.NOT);
        Check.buy(town, 0, 0, 4);
        CHECK.due("an owned lot", town.give(0, 0, 0), PaperTown.NOT);
        CHECK.due("one title", town.count(11), 1);
    }

    private static void giveWhatSomebodyHas() {
        PaperTown town = market(5, 5);
        town.give(3, 0, 5);
        CHECK.due("another's", town.give(3, 1, 9), PaperTown.NOT);
        CHECK.due("his", town.give(3, 0, 9), PaperTown.NOT);
        town.pass(3, 1);
        CHECK.due("passed on", town.give(3, 0, 9), PaperTown.NOT);
        Check.until(town, 6);
        CHECK.due("the first condition held", town.lot(3, 9), 5);
        CHECK.due("nobody's again", town.give(3, 0, 9), 1);
    }

    private static void refusalsOfGiveInTheirOrder() {
        PaperTown town = market(5);
        town.days(10);
        CHECK.due("lot, day", town.give(4, 0, 9), PaperTown.UNKNOWN);
        CHECK.due("person, day", town.give(3, 1, 10000), PaperTown.UNKNOWN);
        CHECK.due("person, no gift", town.give(0, 1, 10), PaperTown.UNKNOWN);
        CHECK.due("day, no gift", town.give(0, 0, 9), PaperTown.OUTSIDE);
        town.give(3, 0, 10);
        CHECK.due("day, somebody's", town.give(3, 0, 10000), PaperTown.OUTSIDE);
        CHECK.due("person, somebody's", town.give(3, 1, 10), PaperTown.UNKNOWN);
    }

    // ---- rate

    private static void ratesInTheirBounds() {
        PaperTown town = new PaperTown();
        CHECK.due("0 at first", town.rate(100), 0);
        for (int v : new int[] {LEAST, -1, 101, MOST}) {
            CHECK.due("rate " + v, town.rate(v), PaperTown.OUTSIDE);
        }
        CHECK.due("the most stays", town.rate(0), 100);
        CHECK.due("the least", town.rate(0), 0);
    }
}
