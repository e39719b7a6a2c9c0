/** Promise 16: what the end of a day brings, in its order. */
public final class DaysTest {
    private static final Check CHECK = new Check();

    public static void main(String[] args) {
        daysRefuse();
        partsArePaid();
        partsArePaidLate();
        partsStayOut();
        partsByNumbers();
        partsAheadOfTaxes();
        taxesOnTheirDay();
        taxesOut();
        goesBackFreeOfDebts();
        forfeitAheadOfSecondYear();
        taxesByNumbers();
        taxesAheadOfComers();
        comersChoose();
        comersSeeWhoCame();
        comersAheadOfConditions();
        conditions();
        conditionOfTheOwnerThen();
        CHECK.end();
    }

    private static void daysRefuse() {
        PaperTown town = new PaperTown();
        CHECK.due("0", town.days(0), 0);
        CHECK.due("-1", town.days(-1), PaperTown.OUTSIDE);
        CHECK.due("1001", town.days(1001), PaperTown.OUTSIDE);
        CHECK.due("most", town.days(Integer.MAX_VALUE), PaperTown.OUTSIDE);
        for (int k = 1; k <= 9; k++) {
            CHECK.due("1000", town.days(1000), 1000 * k);
        }
        CHECK.due("to 10000", town.days(1000), PaperTown.NOT);
        CHECK.due("outside ahead of not", town.days(1001), PaperTown.OUTSIDE);
        CHECK.due("to 9999", town.days(999), 9999);
        CHECK.due("0 on the last", town.days(0), 9999);
        CHECK.due("1 on the last", town.days(1), PaperTown.NOT);
        CHECK.due("now", town.count(3), 9999);
    }

    private static void partsArePaid() {
        PaperTown town = Check.town("b0 0 1 1 1");
        town.person(1000);
        Check.buy(town, 0, 0, 203); // 50, then 51, 51, 51
        town.money(0, -797);
        int[][] due = {{100, 153, 100, 153}, {101, 102, 200, 102}, {200, 102, 200, 102},
            {201, 51, 300, 51}, {300, 51, 300, 51}, {301, 0, PaperTown.NONE, 0}};
        for (int[] row : due) {
            Check.until(town, row[0]);
            CHECK.due("owed at " + row[0], town.lot(0, 5), row[1]);
            CHECK.due("due at " + row[0], town.lot(0, 6), row[2]);
            CHECK.due("money at " + row[0], town.told(0, 0), row[3]);
        }
        CHECK.due("got", town.count(8), 203);
        Check.until(town, 364);
        CHECK.due("his", town.lot(0, 1), 0);
        CHECK.due("as of", town.lot(0, 9), 0);
        PaperTown odd = Check.town("b0 0 1 1 1");
        odd.person(1000);
        Check.buy(odd, 0, 0, 11); // 2, then 3, 3, 3
        Check.until(odd, 101);
        CHECK.due("thirds", odd.lot(0, 5), 6);
        PaperTown left = Check.town("b0 0 1 1 1");
        left.person(1000);
        Check.buy(left, 0, 0, 10); // 2, then 2, 2, 4
        Check.until(left, 201);
        CHECK.due("the last with what is left over", left.lot(0, 5), 4);
        PaperTown least = Check.town("b0 0 1 1 1");
        least.person(0);
        Check.buy(least, 0, 0, 1); // 0, then 0, 0, 1
        CHECK.due("a part of nothing is due too", least.lot(0, 6), 100);
        Check.until(least, 201);
        CHECK.due("the last one", least.lot(0, 6), 300);
        CHECK.due("one is owed", least.lot(0, 5), 1);
        Check.until(least, 331);
        CHECK.due("forfeit for one", least.count(6), 1);
    }

    private static void partsArePaidLate() {
        PaperTown town = Check.town("b0 0 1 1 1");
        town.person(10);
        Check.buy(town, 0, 0, 40);
        Check.until(town, 120);
        CHECK.due("not paid", town.lot(0, 5), 30);
        CHECK.due("was due", town.lot(0, 6), 100);
        town.money(0, 9);
        town.days(1);
        CHECK.due("not by halves", town.told(0, 0), 9);
        town.money(0, 1);
        town.days(1);
        CHECK.due("paid", town.lot(0, 5), 20);
        CHECK.due("the next one's day stays", town.lot(0, 6), 200);
        Check.until(town, 230);
        CHECK.due("still his", town.lot(0, 1), 0);
        town.money(0, 10);
        town.days(1);
        CHECK.due("paid on the 30th day", town.lot(0, 5), 10);
        CHECK.due("his", town.lot(0, 1), 0);
        CHECK.due("none forfeit", town.count(6), 0);
    }

    private static void partsStayOut() {
        PaperTown town = Check.town("b0 0 1 1 2");
        town.person(20);
        Check.buy(town, 0, 0, 40);
        Check.until(town, 230);
        CHECK.due("on the 30th day", town.lot(0, 1), 0);
        CHECK.due("not yet", town.count(6), 0);
        town.days(1);
        CHECK.due("the company's", town.lot(0, 1), PaperTown.NONE);
        CHECK.due("forfeit", town.count(6), 1);
        CHECK.due("not for taxes", town.count(7), 0);
        CHECK.due("nothing is owed", town.lot(0, 5), 0);
        CHECK.due("nothing is due", town.lot(0, 6), PaperTown.NONE);
        CHECK.due("as of", town.lot(0, 9), 230);
        CHECK.due("what was paid is lost", town.count(8), 20);
        CHECK.due("he has none", town.told(0, 1), 0);
        CHECK.due("titles", town.count(11), 2);
        town.money(0, 1000);
        Check.until(town, 400);
        CHECK.due("nothing more is taken", town.told(0, 0), 1000);
        CHECK.due("a new auction", town.bid(0, 0, 4), 1);
        CHECK.due("sold again", town.close(0), 0);
        CHECK.due("due again", town.lot(0, 6), 500);
    }

    private static void partsByNumbers() {
        PaperTown town = Check.town("b0 0 1 1 2");
        town.person(30);
        Check.buy(town, 1, 0, 40);
        Check.buy(town, 0, 0, 40);
        Check.until(town, 101);
        CHECK.due("the first lot's part", town.lot(0, 5), 20);
        CHECK.due("no money for the second", town.lot(1, 5), 30);
        CHECK.due("owed in all", town.told(0, 3), 50);
    }

    private static PaperTown farTown(int money) {
        PaperTown town = Check.town("b19 15 1 1 1"); // worth 20 + 200 / 35 = 25
        town.person(money);
        return town;
    }

    private static void partsAheadOfTaxes() {
        PaperTown town = farTown(2);
        Check.until(town, 264);
        town.rate(4); // a tax of 1
        Check.buy(town, 0, 0, 4);
        Check.until(town, 365);
        CHECK.due("the part is paid", town.lot(0, 5), 2);
        CHECK.due("the tax is out", town.lot(0, 7), 1);
        CHECK.due("none paid", town.count(9), 0);
    }

    private static void taxesOnTheirDay() {
        PaperTown town = farTown(1000);
        town.rate(7);
        Check.buy(town, 0, 0, 4);
        Check.until(town, 364);
        CHECK.due("not yet", town.count(9), 0);
        town.days(1);
        CHECK.due("175 / 100", town.count(9), 1);
        CHECK.due("paid", town.told(0, 0), 995);
        CHECK.due("none to the company's sales", town.count(8), 4);
        Check.until(town, 729);
        CHECK.due("a year long none", town.count(9), 1);
        town.rate(100);
        town.days(1);
        CHECK.due("all of it", town.count(9), 26);
        town.rate(0);
        town.money(0, -town.told(0, 0));
        Check.until(town, 3000);
        CHECK.due("a rate of 0 asks nothing", town.lot(0, 1), 0);
        CHECK.due("nothing out", town.lot(0, 7), 0);
    }

    private static void taxesOut() {
        PaperTown town = farTown(4);
        Check.buy(town, 0, 0, 4);
        town.rate(4);
        Check.until(town, 365);
        CHECK.due("one year", town.lot(0, 7), 1);
        CHECK.due("he came all the same", town.told(0, 2), 0);
        town.money(0, 1);
        Check.until(town, 730);
        CHECK.due("paid: none is out", town.lot(0, 7), 0);
        CHECK.due("he had just so much", town.told(0, 0), 0);
        Check.until(town, 1095);
        CHECK.due("one again", town.lot(0, 7), 1);
        CHECK.due("his", town.lot(0, 1), 0);
        Check.until(town, 1459);
        CHECK.due("still his", town.lot(0, 1), 0);
        town.days(1);
        CHECK.due("taken", town.lot(0, 1), PaperTown.NONE);
        CHECK.due("as of", town.lot(0, 9), 1459);
        CHECK.due("he lives nowhere", town.told(0, 2), PaperTown.NONE);
        CHECK.due("nobody lives there", town.count(4), 0);
        CHECK.due("taken for taxes", town.count(7), 1);
        CHECK.due("none forfeit", town.count(6), 0);
        CHECK.due("titles", town.count(11), 2);
        CHECK.due("forgotten", town.lot(0, 7), 0);
        town.money(0, 1);
        Check.until(town, 1460 + 365);
        CHECK.due("the company pays none", town.count(9), 1);
    }

    private static void goesBackFreeOfDebts() {
        PaperTown forfeit = farTown(99);
        Check.until(forfeit, 364);
        forfeit.rate(100);
        Check.buy(forfeit, 0, 0, 396); // 99, then 99, 99, 99
        Check.until(forfeit, 365);
        CHECK.due("one year out", forfeit.lot(0, 7), 1);
        Check.until(forfeit, 495);
        CHECK.due("forfeit", forfeit.lot(0, 9), 494);
        CHECK.due("nothing is owed", forfeit.lot(0, 5), 0);
        CHECK.due("no year either", forfeit.lot(0, 7), 0);
        PaperTown gift = Check.town("g19 15 1 1 b0 0 1 1 1");
        gift.person(0);
        gift.person(0);
        Check.buy(gift, 1, 0, 1);
        gift.money(0, 1);
        gift.give(0, 0, 400);
        gift.rate(4);
        Check.until(gift, 365);
        CHECK.due("a gift is taxed", gift.lot(0, 7), 1);
        Check.until(gift, 401);
        CHECK.due("it goes back", gift.lot(0, 1), PaperTown.NONE);
        gift.give(0, 1, 9999);
        Check.until(gift, 730);
        CHECK.due("the next owner's first year", gift.lot(0, 1), 1);
        Check.until(gift, 1095);
        CHECK.due("a gift is taken for taxes", gift.lot(0, 1), PaperTown.NONE);
        CHECK.due("and may be given again", gift.give(0, 0, 9999), 1);
    }

    private static void forfeitAheadOfSecondYear() {
        PaperTown town = farTown(0);
        town.rate(100);
        Check.until(town, 360);
        Check.buy(town, 0, 0, 3); // parts due on 460, 560, 660
        town.money(0, 2);
        Check.until(town, 561);
        CHECK.due("the last part is owed", town.lot(0, 5), 1);
        CHECK.due("one year out", town.lot(0, 7), 1);
        Check.until(town, 691);
        CHECK.due("forfeit on the 30th day", town.count(6), 1);
        Check.until(town, 730);
        CHECK.due("not taken for taxes too", town.count(7), 0);
    }

    private static void taxesByNumbers() {
        PaperTown town = Check.town("b18 15 1 1 2"); // worths 20 + 5 each
        town.person(8);
        Check.buy(town, 1, 0, 4);
        Check.buy(town, 0, 0, 4);
        town.money(0, 1);
        town.rate(4); // a tax of 1 for each
        Check.until(town, 365);
        CHECK.due("the first is paid", town.lot(0, 7), 0);
        CHECK.due("the second is out", town.lot(1, 7), 1);
        // A lot that is taken has nobody on it, when its neighbour's worth is asked.
        PaperTown pair = Check.town("b18 15 1 1 2 s0 0 0 1");
        pair.person(4);
        pair.person(1004);
        Check.buy(pair, 0, 0, 4);
        Check.buy(pair, 1, 1, 4);
        Check.until(pair, 365);
        CHECK.due("both live there", pair.count(4), 2);
        pair.rate(100);
        Check.until(pair, 730);
        CHECK.due("with a neighbour", pair.told(1, 0), 1000 - 40);
        CHECK.due("one year out", pair.lot(0, 7), 1);
        Check.until(pair, 1095);
        CHECK.due("taken", pair.lot(0, 1), PaperTown.NONE);
        CHECK.due("without a neighbour", pair.told(1, 0), 1000 - 40 - 25);
    }

    private static void taxesAheadOfComers() {
        PaperTown town = Check.town("b18 15 1 1 2");
        town.person(1004);
        town.person(1004);
        Check.buy(town, 0, 0, 4);
        Check.buy(town, 1, 1, 4);
        town.rate(100);
        Check.until(town, 365);
        CHECK.due("no neighbour when it is asked", town.told(0, 0), 1000 - 25);
        CHECK.due("nor the other", town.told(1, 0), 1000 - 25);
        CHECK.due("both came then", town.count(4), 2);
        CHECK.due("taxes", town.count(9), 50);
    }

    private static void comersChoose() {
        PaperTown town = Check.town("b1 0 1 1 1 b0 1 1 1 1 g9 9 2 2 g19 15 1 1");
        town.person(10);
        town.person(10);
        Check.buy(town, 0, 0, 1);
        Check.buy(town, 1, 0, 1);
        town.give(2, 0, 9999);
        town.give(3, 1, 9999);
        Check.until(town, 364);
        CHECK.due("not yet", town.count(4), 0);
        town.days(1);
        CHECK.due("of like ones the least number", town.told(0, 2), 0);
        CHECK.due("lives there", town.lot(0, 4), 0);
        CHECK.due("not there", town.lot(1, 4), PaperTown.NONE);
        CHECK.due("a gift", town.told(1, 2), 3);
        town.halt(9, 9);
        Check.until(town, 730);
        CHECK.due("who lives somewhere stays", town.told(0, 2), 0);
        town.pass(0, 1);
        CHECK.due("nowhere at once", town.told(0, 2), PaperTown.NONE);
        Check.until(town, 1094);
        CHECK.due("nowhere for the year", town.told(0, 2), PaperTown.NONE);
        town.days(1);
        CHECK.due("the greatest", town.told(0, 2), 2);
        CHECK.due("the other stays", town.told(1, 2), 3);
    }

    private static void comersSeeWhoCame() {
        // Person 1 has a lot beside person 0's, and one that is worth a little more.
        PaperTown town = Check.town("b17 15 1 1 1 b16 15 1 1 1 b10 10 1 1 1");
        town.person(10);
        town.person(10);
        Check.buy(town, 0, 0, 1);
        Check.buy(town, 1, 1, 1);
        Check.buy(town, 2, 1, 1);
        CHECK.due("less", town.lot(1, 3), 26);
        CHECK.due("more", town.lot(2, 3), 29);
        Check.until(town, 365);
        CHECK.due("beside his neighbour", town.told(1, 2), 1);
    }

    private static void comersAheadOfConditions() {
        PaperTown town = Check.town("g5 5 1 1 g7 7 1 1");
        town.person(0);
        town.person(0);
        town.give(0, 0, 364);
        town.give(1, 1, 363);
        Check.until(town, 365);
        CHECK.due("came on the day", town.lot(0, 1), 0);
        CHECK.due("a day too early", town.lot(1, 1), PaperTown.NONE);
        CHECK.due("as of", town.lot(1, 9), 363);
        CHECK.due("it did not come back for taxes", town.count(7), 0);
        CHECK.due("nor was it forfeit", town.count(6), 0);
    }

    private static void conditions() {
        PaperTown town = Check.town("g5 5 1 1 g7 7 1 1");
        town.person(0);
        town.give(1, 0, 9999);
        Check.until(town, 365);
        CHECK.due("lives on the other", town.told(0, 2), 1);
        town.give(0, 0, 400);
        Check.until(town, 400);
        CHECK.due("his for now", town.lot(0, 1), 0);
        town.days(1);
        CHECK.due("he does not live there", town.lot(0, 1), PaperTown.NONE);
        CHECK.due("titles", town.count(11), 3);
        town.pass(1, 0);
        town.give(0, 0, 9999);
        town.person(0);
        town.pass(1, 1);
        Check.until(town, 730);
        CHECK.due("lives there", town.told(0, 2), 0);
        PaperTown kept = Check.town("g5 5 1 1");
        kept.person(0);
        kept.person(0);
        kept.give(0, 0, 364);
        Check.until(kept, 365);
        kept.pass(0, 1);
        Check.until(kept, 700);
        CHECK.due("behind the day there is none", kept.lot(0, 1), 1);
    }

    private static void conditionOfTheOwnerThen() {
        PaperTown town = Check.town("g5 5 1 1");
        town.person(0);
        town.person(0);
        town.give(0, 0, 500);
        Check.until(town, 365);
        CHECK.due("lives there", town.told(0, 2), 0);
        town.pass(0, 1);
        CHECK.due("passed", town.lot(0, 1), 1);
        Check.until(town, 501);
        CHECK.due("the new owner does not live there", town.lot(0, 1), PaperTown.NONE);
        CHECK.due("as of", town.lot(0, 9), 500);
        PaperTown good = Check.town("g5 5 1 1");
        good.person(0);
        good.person(0);
        good.give(0, 0, 364);
        good.pass(0, 1);
        Check.until(good, 365);
        CHECK.due("the new owner came", good.lot(0, 1), 1);
    }
}
