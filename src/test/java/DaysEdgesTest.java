/** Promise 16 and the terms of parts, taxes, comers and conditions, at their edges. */
public final class DaysEdgesTest {
    private static final Check CHECK = new Check();
    private static final int LEAST = Integer.MIN_VALUE, MOST = Integer.MAX_VALUE;

    public static void main(String[] args) {
        daysAtOnce();
        daysToTheLast();
        noDayEnds();
        partOnItsDay();
        partWithJustTheMoney();
        partLateOnEachDay();
        partOnTheThirtiethDay();
        partsKeepTheirDays();
        partOfNothing();
        partsByNumbers();
        partsOfDifferentOwners();
        forfeitTakesAllBack();
        forfeitEndsLiving();
        partsBehindTheLastDay();
        taxDays();
        taxAtEachRate();
        taxWithJustTheMoney();
        taxOfWhomAndOfWhat();
        yearsOut();
        takenForTaxes();
        takenThenComesElsewhere();
        yearsOutAreOfTheLot();
        partsAheadOfTaxes();
        forfeitAheadOfTaxes();
        taxesByNumbers();
        taxesAheadOfComers();
        comersOnTheirDayAlone();
        comersWhoOwn();
        comersWhoLiveNowhere();
        comersOfLikeOnesTheLeast();
        comersOneByOne();
        livesNowhereAtOnce();
        conditionOnItsDay();
        conditionOfToday();
        conditionBehindComers();
        conditionOfTheOwnerThen();
        conditionIsJudgedOnce();
        conditionsOfOneDay();
        conditionGoesWithTheGift();
        conditionOfTheLastDay();
        CHECK.end();
    }

    // ---- days

    private static void daysAtOnce() {
        PaperTown town = new PaperTown();
        for (int n : new int[] {LEAST, -1000, -1, 1001, 9999, 10000, MOST}) {
            CHECK.due("days " + n, town.days(n), PaperTown.OUTSIDE);
            CHECK.due("now", town.count(3), 0);
        }
        CHECK.due("0", town.days(0), 0);
        CHECK.due("1", town.days(1), 1);
        CHECK.due("1000", town.days(1000), 1001);
    }

    private static void daysToTheLast() {
        PaperTown town = new PaperTown();
        Check.until(town, 9000);
        CHECK.due("above by one", town.days(1000), PaperTown.NOT);
        CHECK.due("outside ahead of not", town.days(1001), PaperTown.OUTSIDE);
        CHECK.due("outside ahead of not, below", town.days(-1), PaperTown.OUTSIDE);
        CHECK.due("none ended", town.count(3), 9000);
        CHECK.due("to the last", town.days(999), 9999);
        CHECK.due("none more", town.days(1), PaperTown.NOT);
        CHECK.due("nor a thousand", town.days(1000), PaperTown.NOT);
        CHECK.due("none at all", town.days(0), 9999);
    }

    private static void noDayEnds() {
        PaperTown town = Check.town("g0 0 1 1");
        town.person(0);
        town.give(0, 0, 0);
        CHECK.due("0 days", town.days(0), 0);
        CHECK.due("the condition was not judged", town.lot(0, 1), 0);
        town.days(1);
        CHECK.due("now it was", town.lot(0, 1), PaperTown.NONE);
    }

    // ---- parts

    /** Person 0 owns lot 0 from day 0 on, owes three parts of 10, and has so much money. */
    private static PaperTown owing(int money) {
        PaperTown town = Check.town("b0 0 1 1 2 g9 9 1 1");
        town.person(10);
        Check.buy(town, 0, 0, 40);
        town.money(0, money);
        return town;
    }

    private static void partOnItsDay() {
        PaperTown town = owing(30);
        int[][] due = {{99, 30, 100}, {100, 30, 100}, {101, 20, 200}, {200, 20, 200}, {201, 10, 300},
            {300, 10, 300}, {301, 0, PaperTown.NONE}};
        for (int[] row : due) {
            Check.until(town, row[0]);
            CHECK.due("owed at " + row[0], town.lot(0, 5), row[1]);
            CHECK.due("money at " + row[0], town.told(0, 0), row[1]);
            CHECK.due("due at " + row[0], town.lot(0, 6), row[2]);
            CHECK.due("got at " + row[0], town.count(8), 40 - row[1]);
        }
    }

    private static void partWithJustTheMoney() {
        PaperTown just = owing(10);
        Check.until(just, 101);
        CHECK.due("just so much", just.told(0, 0), 0);
        CHECK.due("paid", just.lot(0, 5), 20);
        PaperTown less = owing(9);
        Check.until(less, 101);
        CHECK.due("one less", less.told(0, 0), 9);
        CHECK.due("not paid", less.lot(0, 5), 30);
        CHECK.due("its day stays", less.lot(0, 6), 100);
    }

    private static void partLateOnEachDay() {
        for (int late = 1; late <= 30; late++) {
            PaperTown town = owing(9);
            Check.until(town, 100 + late);
            town.money(0, 1);
            CHECK.due("not paid " + late, town.lot(0, 5), 30);
            town.days(1);
            CHECK.due("paid " + late, town.lot(0, 5), 20);
            CHECK.due("his " + late, town.lot(0, 1), 0);
            CHECK.due("the next one's day " + late, town.lot(0, 6), 200);
        }
    }

    private static void partOnTheThirtiethDay() {
        PaperTown town = owing(9);
        Check.until(town, 130);
        CHECK.due("29 days behind: his", town.lot(0, 1), 0);
        CHECK.due("none forfeit", town.count(6), 0);
        town.days(1);
        CHECK.due("30 days behind: the company's", town.lot(0, 1), PaperTown.NONE);
        CHECK.due("forfeit", town.count(6), 1);
        CHECK.due("as of", town.lot(0, 9), 130);
        CHECK.due("on the day ahead", town.title(0, 129), 0);
        CHECK.due("on that day", town.title(0, 130), PaperTown.NONE);
        PaperTown paid = owing(9);
        Check.until(paid, 130);
        paid.money(0, 1);
        paid.days(1);
        CHECK.due("paid then", paid.lot(0, 1), 0);
        CHECK.due("none forfeit then", paid.count(6), 0);
    }

    private static void partsKeepTheirDays() {
        PaperTown town = owing(0);
        Check.until(town, 129);
        town.money(0, 10);
        Check.until(town, 200);
        CHECK.due("the second one's day", town.lot(0, 6), 200);
        Check.until(town, 230);
        town.money(0, 10);
        town.days(1);
        CHECK.due("paid on the 30th day", town.lot(0, 5), 10);
        CHECK.due("the third one's day", town.lot(0, 6), 300);
        Check.until(town, 330);
        CHECK.due("his till then", town.lot(0, 1), 0);
        town.days(1);
        CHECK.due("the last stayed out", town.lot(0, 1), PaperTown.NONE);
        CHECK.due("what was paid is lost", town.count(8), 30);
    }

    private static void partOfNothing() {
        PaperTown town = Check.town("b0 0 1 1 1");
        town.person(0);
        Check.buy(town, 0, 0, 2); // nothing now, then nothing twice, then 2
        CHECK.due("due all the same", town.lot(0, 6), 100);
        Check.until(town, 101);
        CHECK.due("the first is done", town.lot(0, 6), 200);
        Check.until(town, 201);
        CHECK.due("the second too", town.lot(0, 6), 300);
        CHECK.due("all is owed", town.lot(0, 5), 2);
        Check.until(town, 330);
        CHECK.due("his", town.lot(0, 1), 0);
        town.days(1);
        CHECK.due("forfeit", town.count(6), 1);
    }

    private static void partsByNumbers() {
        PaperTown town = owing(0);
        town.money(0, 10);
        Check.buy(town, 1, 0, 40);
        town.money(0, 10);
        Check.until(town, 101);
        CHECK.due("the first is paid", town.lot(0, 5), 20);
        CHECK.due("the second is not", town.lot(1, 5), 30);
        CHECK.due("in all", town.told(0, 3), 50);
        Check.until(town, 131);
        CHECK.due("the first is his", town.lot(0, 1), 0);
        CHECK.due("the second is not", town.lot(1, 1), PaperTown.NONE);
        CHECK.due("in all then", town.told(0, 3), 20);
        PaperTown uneven = Check.town("b0 0 1 1 2");
        uneven.person(20);
        Check.buy(uneven, 1, 0, 4);
        Check.buy(uneven, 0, 0, 40);
        uneven.money(0, -6);
        Check.until(uneven, 101);
        CHECK.due("not enough for the first", uneven.lot(0, 5), 30);
        CHECK.due("enough for the second", uneven.lot(1, 5), 2);
    }

    private static void partsOfDifferentOwners() {
        PaperTown town = owing(0);
        town.person(40);
        Check.buy(town, 1, 1, 40);
        Check.until(town, 131);
        CHECK.due("one is forfeit", town.count(6), 1);
        CHECK.due("the other is his", town.lot(1, 1), 1);
        CHECK.due("he owes", town.told(1, 3), 20);
    }

    private static void forfeitTakesAllBack() {
        PaperTown town = owing(9);
        Check.until(town, 131);
        CHECK.due("nothing more is owed", town.lot(0, 5), 0);
        CHECK.due("nothing is due", town.lot(0, 6), PaperTown.NONE);
        CHECK.due("he owes none", town.told(0, 3), 0);
        CHECK.due("he owns none", town.told(0, 1), 0);
        CHECK.due("he keeps his money", town.told(0, 0), 9);
        CHECK.due("what was paid is lost", town.count(8), 10);
        CHECK.due("titles", town.count(11), 2);
        town.money(0, 100);
        Check.until(town, 361);
        CHECK.due("nothing is taken later", town.told(0, 0), 109);
        Check.buy(town, 0, 0, 8);
        CHECK.due("bought again", town.lot(0, 1), 0);
        CHECK.due("owed anew", town.lot(0, 5), 6);
        CHECK.due("due anew", town.lot(0, 6), 461);
    }

    private static void forfeitEndsLiving() {
        PaperTown town = Check.town("b0 0 1 1 1");
        town.person(10);
        Check.until(town, 300);
        Check.buy(town, 0, 0, 40);
        Check.until(town, 365);
        CHECK.due("lives there", town.told(0, 2), 0);
        Check.until(town, 430);
        CHECK.due("still", town.lot(0, 4), 0);
        town.days(1);
        CHECK.due("nowhere", town.told(0, 2), PaperTown.NONE);
        CHECK.due("nobody there", town.lot(0, 4), PaperTown.NONE);
        CHECK.due("nobody in the town", town.count(4), 0);
    }

    private static void partsBehindTheLastDay() {
        PaperTown town = Check.town("b0 0 1 1 2");
        town.person(100);
        Check.until(town, 9898);
        Check.buy(town, 0, 0, 40);
        town.days(1);
        Check.buy(town, 1, 0, 40);
        Check.until(town, 9999);
        CHECK.due("the part of 9998 is paid", town.lot(0, 5), 20);
        CHECK.due("the next is due behind the last day", town.lot(0, 6), 10098);
        CHECK.due("the day 9999 does not end", town.lot(1, 5), 30);
        CHECK.due("due on it", town.lot(1, 6), 9999);
    }

    // ---- taxes

    /** Lot 0 of worth 25 is person 0's, nothing is owed for it, and he has so much money. */
    private static PaperTown taxed(int rate, int money) {
        PaperTown town = Check.town("b19 15 1 1 1");
        town.person(4);
        Check.buy(town, 0, 0, 4);
        Check.until(town, 301);
        CHECK.due("nothing is owed", town.told(0, 0) + town.lot(0, 5), 0);
        town.money(0, money);
        town.rate(rate);
        return town;
    }

    private static void taxDays() {
        PaperTown town = taxed(100, 1000);
        int[][] due = {{363, 0}, {364, 0}, {365, 25}, {366, 25}, {729, 25}, {730, 50}, {1094, 50}, {1095, 75}};
        for (int[] row : due) {
            Check.until(town, row[0]);
            CHECK.due("taxes at " + row[0], town.count(9), row[1]);
            CHECK.due("money at " + row[0], town.told(0, 0), 1000 - row[1]);
        }
        PaperTown late = taxed(100, 1000);
        late.rate(0);
        Check.until(late, 9854);
        late.rate(100);
        CHECK.due("the last tax day is 9854", late.count(9), 0);
        Check.until(late, 9999);
        CHECK.due("once", late.count(9), 25);
    }

    private static void taxAtEachRate() {
        int[][] due = {{0, 0}, {1, 0}, {3, 0}, {4, 1}, {7, 1}, {8, 2}, {99, 24}, {100, 25}};
        for (int[] row : due) {
            PaperTown town = taxed(row[0], 100);
            Check.until(town, 365);
            CHECK.due("tax at a rate of " + row[0], town.count(9), row[1]);
            CHECK.due("money at a rate of " + row[0], town.told(0, 0), 100 - row[1]);
            CHECK.due("nothing is out", town.lot(0, 7), 0);
        }
        PaperTown poor = taxed(3, 0);
        Check.until(poor, 1095);
        CHECK.due("a tax of nothing is paid by who has nothing", poor.lot(0, 7), 0);
        CHECK.due("his", poor.lot(0, 1), 0);
    }

    private static void taxWithJustTheMoney() {
        PaperTown just = taxed(100, 25);
        Check.until(just, 365);
        CHECK.due("just so much", just.told(0, 0), 0);
        CHECK.due("none is out", just.lot(0, 7), 0);
        CHECK.due("paid", just.count(9), 25);
        PaperTown less = taxed(100, 24);
        Check.until(less, 365);
        CHECK.due("one less", less.told(0, 0), 24);
        CHECK.due("one is out", less.lot(0, 7), 1);
        CHECK.due("nothing paid", less.count(9), 0);
    }

    private static void taxOfWhomAndOfWhat() {
        PaperTown town = Check.town("b18 15 1 1 2 g0 0 1 1 g5 5 1 1");
        town.person(1000);
        town.person(1000);
        town.rate(100);
        town.give(2, 0, 9999);
        Check.until(town, 730);
        CHECK.due("a gift's owner pays", town.told(0, 0), 1000 - 2 * 220);
        CHECK.due("who owns none pays none", town.told(1, 0), 1000);
        CHECK.due("the company pays none", town.count(9), 440);
        CHECK.due("nothing out for it", town.lot(0, 7), 0);
        CHECK.due("nor for nobody's gift", town.lot(3, 7), 0);
        CHECK.due("none taken", town.count(7), 0);
        CHECK.due("nothing of it for lots", town.count(8), 0);
    }

    private static void yearsOut() {
        PaperTown town = taxed(100, 0);
        CHECK.due("none at first", town.lot(0, 7), 0);
        Check.until(town, 365);
        CHECK.due("one", town.lot(0, 7), 1);
        CHECK.due("his still", town.lot(0, 1), 0);
        town.money(0, 25);
        Check.until(town, 730);
        CHECK.due("paid: none", town.lot(0, 7), 0);
        Check.until(town, 1095);
        CHECK.due("one again", town.lot(0, 7), 1);
        town.rate(0);
        Check.until(town, 1460);
        CHECK.due("a rate of 0: none", town.lot(0, 7), 0);
        town.rate(100);
        Check.until(town, 1825);
        CHECK.due("one once more", town.lot(0, 7), 1);
        CHECK.due("his all the time", town.lot(0, 9), 0);
    }

    private static void takenForTaxes() {
        PaperTown town = Check.town("b19 15 1 1 1");
        town.person(100);
        town.rate(100);
        Check.until(town, 600);
        Check.buy(town, 0, 0, 400);
        Check.until(town, 700);
        town.money(0, 100);
        Check.until(town, 730);
        CHECK.due("one year out", town.lot(0, 7), 1);
        town.money(0, 100);
        Check.until(town, 801);
        CHECK.due("one part is owed", town.lot(0, 5), 100);
        town.money(0, 100);
        Check.until(town, 901);
        CHECK.due("all paid", town.lot(0, 5), 0);
        Check.until(town, 1094);
        CHECK.due("his till then", town.lot(0, 1), 0);
        CHECK.due("none taken", town.count(7), 0);
        town.days(1);
        CHECK.due("two years", town.lot(0, 1), PaperTown.NONE);
        CHECK.due("taken", town.count(7), 1);
        CHECK.due("not forfeit", town.count(6), 0);
        CHECK.due("as of", town.lot(0, 9), 1094);
        CHECK.due("titles", town.count(11), 2);
        CHECK.due("no years with the company", town.lot(0, 7), 0);
        CHECK.due("a new auction", town.bid(0, 0, 1), 1);
        town.close(0);
        CHECK.due("none out for the next owner", town.lot(0, 7), 0);
    }

    private static void takenThenComesElsewhere() {
        PaperTown town = Check.town("g19 15 1 1 g0 0 1 1");
        town.person(0);
        town.give(0, 0, 9999);
        town.rate(100);
        Check.until(town, 400);
        CHECK.due("one year out", town.lot(0, 7), 1);
        CHECK.due("lives there", town.told(0, 2), 0);
        town.give(1, 0, 729);
        Check.until(town, 730);
        CHECK.due("taken", town.lot(0, 1), PaperTown.NONE);
        CHECK.due("lives on the other the same day", town.told(0, 2), 1);
        CHECK.due("so the condition held", town.lot(1, 1), 0);
    }

    private static void yearsOutAreOfTheLot() {
        PaperTown town = taxed(100, 0);
        town.person(24);
        Check.until(town, 365);
        town.pass(0, 1);
        CHECK.due("passed with a year out", town.lot(0, 7), 1);
        Check.until(town, 730);
        CHECK.due("the second, of another owner", town.count(7), 1);
        CHECK.due("taken from him", town.title(0, 728), 1);
        PaperTown paid = taxed(100, 0);
        paid.person(25);
        Check.until(paid, 365);
        paid.pass(0, 1);
        Check.until(paid, 730);
        CHECK.due("paid by another owner", paid.lot(0, 7), 0);
        PaperTown forfeit = Check.town("b19 15 1 1 1");
        forfeit.person(0);
        forfeit.rate(100);
        Check.until(forfeit, 364);
        Check.buy(forfeit, 0, 0, 3);
        Check.until(forfeit, 495);
        CHECK.due("forfeit", forfeit.count(6), 1);
        CHECK.due("nothing more is owed, no year either", forfeit.lot(0, 7), 0);
    }

    private static void partsAheadOfTaxes() {
        PaperTown town = Check.town("b19 15 1 1 1");
        town.person(25);
        Check.until(town, 264);
        Check.buy(town, 0, 0, 3); // a part of 1 on day 364
        town.rate(100);
        Check.until(town, 365);
        CHECK.due("the part is paid", town.lot(0, 5), 2);
        CHECK.due("24 are too few then", town.lot(0, 7), 1);
        CHECK.due("they stay", town.told(0, 0), 24);
    }

    private static void forfeitAheadOfTaxes() {
        PaperTown town = Check.town("b19 15 1 1 1 g0 0 1 1");
        town.person(26);
        Check.until(town, 234);
        Check.buy(town, 0, 0, 400); // 100 are too many
        CHECK.due("nobody bought", town.lot(0, 1), PaperTown.NONE);
        Check.buy(town, 0, 0, 104); // 26 now, then 26 on day 334
        town.money(0, 25);
        town.rate(100);
        Check.until(town, 365);
        CHECK.due("forfeit on day 364", town.lot(0, 9), 364);
        CHECK.due("no tax for it", town.count(9), 0);
        CHECK.due("he keeps his money", town.told(0, 0), 25);
        CHECK.due("he did not come", town.count(4), 0);
    }

    private static void taxesByNumbers() {
        PaperTown town = Check.town("g18 15 1 1 g0 0 1 1 g19 15 1 1");
        town.person(30);
        for (int l = 2; l >= 0; l--) {
            town.give(l, 0, 9999);
        }
        town.rate(100); // taxes of 25, 220, 25
        Check.until(town, 365);
        CHECK.due("the first is paid", town.lot(0, 7), 0);
        CHECK.due("the second is out", town.lot(1, 7), 1);
        CHECK.due("the third is out", town.lot(2, 7), 1);
        CHECK.due("what is left", town.told(0, 0), 5);
        town.money(0, 45);
        Check.until(town, 730);
        CHECK.due("the first again", town.lot(0, 7), 0);
        CHECK.due("the second is taken", town.lot(1, 1), PaperTown.NONE);
        CHECK.due("the third is paid", town.lot(2, 7), 0);
        CHECK.due("nothing is left", town.told(0, 0), 0);
    }

    private static void taxesAheadOfComers() {
        PaperTown town = Check.town("g18 15 1 1 g19 15 1 1");
        town.person(1000);
        town.person(1000);
        town.give(0, 0, 9999);
        town.give(1, 1, 9999);
        town.rate(100);
        Check.until(town, 365);
        CHECK.due("without neighbours", town.count(9), 25 + 25);
        CHECK.due("then they came", town.count(4), 2);
        Check.until(town, 730);
        CHECK.due("with neighbours", town.count(9), 50 + 40 + 40);
    }

    // ---- comers

    private static void comersOnTheirDayAlone() {
        PaperTown town = Check.town("g0 0 1 1 g5 5 1 1");
        town.person(0);
        town.person(0);
        town.give(0, 0, 9999);
        Check.until(town, 364);
        CHECK.due("not yet", town.told(0, 2), PaperTown.NONE);
        town.days(1);
        CHECK.due("came", town.told(0, 2), 0);
        town.give(1, 1, 9999);
        Check.until(town, 729);
        CHECK.due("a day too late for this year", town.told(1, 2), PaperTown.NONE);
        town.days(1);
        CHECK.due("came the next year", town.told(1, 2), 1);
        CHECK.due("who lives there", town.lot(1, 4), 1);
    }

    private static void comersWhoOwn() {
        PaperTown town = Check.town("g0 0 1 1");
        town.person(1000);
        Check.until(town, 365);
        CHECK.due("without a lot", town.told(0, 2), PaperTown.NONE);
        CHECK.due("nobody", town.count(4), 0);
        PaperTown full = Check.town("b0 0 1 1 9 b0 1 1 1 9 b0 2 1 1 2");
        for (int p = 0; p < 20; p++) {
            full.person(0);
            Check.buy(full, p, p, 1);
        }
        Check.until(full, 330);
        for (int p = 0; p < 20; p++) {
            full.money(p, 1);
        }
        Check.until(full, 365);
        CHECK.due("all twenty", full.count(4), 20);
        CHECK.due("the last", full.told(19, 2), 19);
    }

    private static void comersWhoLiveNowhere() {
        PaperTown town = Check.town("g19 15 1 1 g0 0 1 1");
        town.person(0);
        town.give(0, 0, 9999);
        Check.until(town, 365);
        town.give(1, 0, 9999);
        Check.until(town, 730);
        CHECK.due("who lives somewhere stays", town.told(0, 2), 0);
        CHECK.due("one lives in the town", town.count(4), 1);
    }

    private static void comersOfLikeOnesTheLeast() {
        PaperTown town = Check.town("g5 0 1 1 g0 5 1 1 g0 5 1 1");
        CHECK.due("the third met the second", town.count(0), 0);
        Check.type(town, "g9 9 1 1 g5 0 1 1 g0 5 1 1");
        town.draw();
        town.person(0);
        town.give(2, 0, 9999);
        town.give(1, 0, 9999);
        town.give(0, 0, 9999);
        CHECK.due("like worths", town.lot(1, 3) - town.lot(2, 3), 0);
        Check.until(town, 365);
        CHECK.due("the least number of these", town.told(0, 2), 1);
    }

    /** Lots 0 and 1 lie side by side; person 1 goes where person 0 makes the greater worth. */
    private static void comersOneByOne() {
        PaperTown town = Check.town("g17 15 1 1 g16 15 1 1 g10 10 1 1");
        town.person(0);
        town.person(0);
        town.give(0, 0, 9999);
        town.give(1, 1, 9999);
        town.give(2, 1, 9999);
        Check.until(town, 365);
        CHECK.due("beside who came ahead", town.told(1, 2), 1);
        PaperTown turned = Check.town("g17 15 1 1 g16 15 1 1 g10 10 1 1");
        turned.person(0);
        turned.person(0);
        turned.give(0, 1, 9999);
        turned.give(1, 0, 9999);
        turned.give(2, 0, 9999);
        Check.until(turned, 365);
        CHECK.due("who comes first has no neighbour yet", turned.told(0, 2), 2);
    }

    private static void livesNowhereAtOnce() {
        PaperTown town = Check.town("g0 0 1 1 g5 5 1 1");
        town.person(0);
        town.person(0);
        town.give(0, 0, 9999);
        town.give(1, 0, 9999);
        Check.until(town, 365);
        CHECK.due("lives there", town.told(0, 2), 0);
        town.pass(0, 1);
        CHECK.due("nowhere", town.told(0, 2), PaperTown.NONE);
        CHECK.due("nobody there", town.lot(0, 4), PaperTown.NONE);
        CHECK.due("nobody at all", town.count(4), 0);
        town.pass(0, 0);
        CHECK.due("having it again he does not live there", town.told(0, 2), PaperTown.NONE);
        town.pass(1, 1);
        Check.until(town, 730);
        CHECK.due("till the comers' day", town.told(0, 2), 0);
        town.pass(1, 0);
        CHECK.due("another lot's passing is nothing to it", town.told(0, 2), 0);
    }

    // ---- conditions

    private static void conditionOnItsDay() {
        PaperTown town = Check.town("g0 0 1 1");
        town.person(0);
        town.give(0, 0, 5);
        Check.until(town, 5);
        CHECK.due("on the day told", town.lot(0, 1), 0);
        town.days(1);
        CHECK.due("at its end", town.lot(0, 1), PaperTown.NONE);
        CHECK.due("as of", town.lot(0, 9), 5);
        CHECK.due("on the day ahead", town.title(0, 4), 0);
        CHECK.due("on that day", town.title(0, 5), PaperTown.NONE);
        CHECK.due("titles", town.count(11), 2);
        CHECK.due("neither forfeit nor taken", town.count(6) + town.count(7), 0);
    }

    private static void conditionOfToday() {
        PaperTown town = Check.town("g0 0 1 1");
        town.person(0);
        town.days(3);
        town.give(0, 0, 3);
        CHECK.due("his today", town.title(0, 3), 0);
        town.days(1);
        CHECK.due("back today", town.title(0, 3), PaperTown.NONE);
        CHECK.due("given again", town.give(0, 0, 4), 1);
    }

    private static void conditionBehindComers() {
        PaperTown town = Check.town("g0 0 1 1 g5 5 1 1 g9 9 1 1");
        for (int p = 0; p < 3; p++) {
            town.person(0);
            town.give(p, p, 363 + p);
        }
        Check.until(town, 364);
        CHECK.due("a day ahead of the comers: back", town.lot(0, 1), PaperTown.NONE);
        town.days(1);
        CHECK.due("on their day: his", town.lot(1, 1), 1);
        town.days(1);
        CHECK.due("a day behind: his", town.lot(2, 1), 2);
    }

    private static void conditionOfTheOwnerThen() {
        PaperTown town = Check.town("g0 0 1 1");
        town.person(0);
        town.person(0);
        town.give(0, 0, 400);
        Check.until(town, 365);
        town.pass(0, 1);
        Check.until(town, 401);
        CHECK.due("the new owner does not live there", town.lot(0, 1), PaperTown.NONE);
        PaperTown other = Check.town("g0 0 1 1");
        other.person(0);
        other.person(0);
        other.give(0, 0, 400);
        other.pass(0, 1);
        Check.until(other, 401);
        CHECK.due("the new owner lives there", other.lot(0, 1), 1);
    }

    private static void conditionIsJudgedOnce() {
        PaperTown town = Check.town("g0 0 1 1");
        town.person(0);
        town.person(0);
        town.give(0, 0, 364);
        Check.until(town, 365);
        town.pass(0, 1);
        town.days(1);
        CHECK.due("behind that day there is none", town.lot(0, 1), 1);
        Check.until(town, 729);
        CHECK.due("all the year", town.lot(0, 1), 1);
    }

    private static void conditionsOfOneDay() {
        PaperTown town = Check.town("g0 0 1 1 g5 5 1 1 b9 9 1 1 1");
        town.person(0);
        Check.buy(town, 2, 0, 1);
        town.give(0, 0, 7);
        town.give(1, 0, 7);
        Check.until(town, 8);
        CHECK.due("both go back", town.count(5), 2);
        CHECK.due("a lot has no condition", town.lot(2, 1), 0);
        CHECK.due("titles", town.count(11), 5);
    }

    private static void conditionGoesWithTheGift() {
        PaperTown town = Check.town("g19 15 1 1");
        town.person(0);
        town.person(0);
        town.rate(100);
        town.give(0, 0, 800);
        Check.until(town, 730);
        CHECK.due("taken for taxes", town.count(7), 1);
        town.rate(0);
        Check.until(town, 801);
        CHECK.due("nothing goes back from nobody", town.count(11), 2);
        town.give(0, 1, 850);
        Check.until(town, 850);
        CHECK.due("given anew", town.lot(0, 1), 1);
        town.days(1);
        CHECK.due("its own day counts", town.lot(0, 9), 850);
        PaperTown anew = Check.town("g19 15 1 1");
        anew.person(0);
        anew.person(0);
        anew.rate(100);
        anew.give(0, 0, 800);
        Check.until(anew, 730);
        anew.give(0, 1, 900);
        Check.until(anew, 801);
        CHECK.due("the older condition is gone", anew.lot(0, 1), 1);
    }

    private static void conditionOfTheLastDay() {
        PaperTown town = Check.town("g0 0 1 1 g5 5 1 1");
        town.person(0);
        town.person(0);
        Check.until(town, 9900);
        town.give(0, 0, 9998);
        town.give(1, 1, 9999);
        Check.until(town, 9998);
        CHECK.due("the last but one", town.lot(0, 1), 0);
        town.days(1);
        CHECK.due("ended", town.lot(0, 1), PaperTown.NONE);
        CHECK.due("the last one never ends", town.lot(1, 1), 1);
    }
}
