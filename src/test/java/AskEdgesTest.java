/** Promises 17 to 20 and the terms of bonds, at their edges: one test for each sentence that names one. */
public final class AskEdgesTest {
    private static final Check CHECK = new Check();
    private static final int LEAST = Integer.MIN_VALUE, MOST = Integer.MAX_VALUE, ALL = 1000000;
    private static final String FORTY = "b0 0 1 1 9 b0 1 1 1 9 b0 2 1 1 9 b0 3 1 1 9 b0 4 1 1 4";

    public static void main(String[] args) {
        titlesOfLots();
        titlesOnDays();
        titleOnTheFirstAndTheLastDay();
        titleBehindAllOfADay();
        titleAtTheEndOfADay();
        titleOfALotDrawnLater();
        titlesByManyChanges();
        toldOfWhom();
        toldWhat();
        toldOfWhoHasNothing();
        toldOfWhoHasAll();
        countWhat();
        countsOfAFullTown();
        countOfChanges();
        countOfTheCompany();
        bondsOfSums();
        bondWhat();
        bondWithNobody();
        bondOfATenth();
        bondIsCut();
        bondOfMoreThanHalf();
        bondOfWhoLivesThere();
        bondOfTwenty();
        bondChangesNothing();
        CHECK.end();
    }

    // ---- title

    private static void titlesOfLots() {
        PaperTown empty = new PaperTown();
        CHECK.due("none there yet", empty.title(0, 0), PaperTown.UNKNOWN);
        PaperTown town = Check.town(FORTY);
        CHECK.due("the first", town.title(0, 0), PaperTown.NONE);
        CHECK.due("the last", town.title(39, 0), PaperTown.NONE);
        for (int l : new int[] {LEAST, -1, 40, MOST}) {
            CHECK.due("lot " + l, town.title(l, 0), PaperTown.UNKNOWN);
            CHECK.due("unknown ahead of outside, " + l, town.title(l, 1), PaperTown.UNKNOWN);
        }
    }

    private static void titlesOnDays() {
        PaperTown town = Check.town("b0 0 1 1 1");
        town.person(5);
        Check.buy(town, 0, 0, 4);
        town.days(7);
        CHECK.due("day 0", town.title(0, 0), 0);
        CHECK.due("now", town.title(0, 7), 0);
        for (int day : new int[] {LEAST, -1, 8, 9999, 10000, MOST}) {
            CHECK.due("day " + day, town.title(0, day), PaperTown.OUTSIDE);
        }
    }

    private static void titleOnTheFirstAndTheLastDay() {
        PaperTown town = Check.town("b0 0 1 1 1 g5 5 1 1");
        town.person(5);
        CHECK.due("tomorrow on day 0", town.title(0, 1), PaperTown.OUTSIDE);
        CHECK.due("day 0", town.title(0, 0), PaperTown.NONE);
        Check.until(town, 9999);
        town.give(1, 0, 9999);
        CHECK.due("the last day", town.title(1, 9999), 0);
        CHECK.due("the day ahead", town.title(1, 9998), PaperTown.NONE);
        CHECK.due("behind the last", town.title(1, 10000), PaperTown.OUTSIDE);
    }

    private static void titleBehindAllOfADay() {
        PaperTown town = Check.town("b0 0 1 1 1");
        for (int p = 0; p < 3; p++) {
            town.person(5);
        }
        town.days(2);
        CHECK.due("nothing done yet", town.title(0, 2), PaperTown.NONE);
        Check.buy(town, 0, 2, 4);
        CHECK.due("bought", town.title(0, 2), 2);
        town.pass(0, 1);
        CHECK.due("passed", town.title(0, 2), 1);
        town.pass(0, 0);
        CHECK.due("passed again", town.title(0, 2), 0);
        CHECK.due("the day ahead", town.title(0, 1), PaperTown.NONE);
        town.days(1);
        town.pass(0, 2);
        CHECK.due("the last of that day stays", town.title(0, 2), 0);
        CHECK.due("the next day", town.title(0, 3), 2);
    }

    private static void titleAtTheEndOfADay() {
        PaperTown town = Check.town("g0 0 1 1");
        town.person(5);
        town.days(4);
        town.give(0, 0, 4);
        town.days(2);
        CHECK.due("given and gone back on one day", town.title(0, 4), PaperTown.NONE);
        town.give(0, 0, 7);
        town.days(2);
        CHECK.due("the day between", town.title(0, 5), PaperTown.NONE);
        CHECK.due("given", town.title(0, 6), 0);
        CHECK.due("gone back", town.title(0, 7), PaperTown.NONE);
        CHECK.due("now", town.title(0, 8), PaperTown.NONE);
    }

    private static void titleOfALotDrawnLater() {
        PaperTown town = new PaperTown();
        town.person(5);
        town.days(9);
        Check.type(town, "g0 0 1 1");
        town.draw();
        CHECK.due("long before", town.title(0, 0), PaperTown.NONE);
        CHECK.due("now", town.title(0, 9), PaperTown.NONE);
        town.give(0, 0, 9999);
        CHECK.due("the day ahead of it", town.title(0, 8), PaperTown.NONE);
        CHECK.due("given", town.title(0, 9), 0);
    }

    /** As many changes as the calls of an object leave room for. */
    private static void titlesByManyChanges() {
        PaperTown town = Check.town("g0 0 1 1");
        town.person(0);
        town.person(0);
        town.give(0, 0, 9999);
        for (int day = 1; day <= 160; day++) {
            town.days(1);
            town.pass(0, day % 2);
        }
        CHECK.due("changes", town.count(11), 161);
        for (int day = 0; day <= 160; day++) {
            CHECK.due("title on " + day, town.title(0, day), day % 2);
        }
        PaperTown quick = Check.town("g0 0 1 1");
        quick.person(0);
        quick.person(0);
        quick.give(0, 0, 9999);
        quick.days(1);
        for (int i = 1; i <= 495; i++) {
            quick.pass(0, i % 2);
        }
        CHECK.due("all on one day", quick.title(0, 1), 1);
        CHECK.due("the day ahead", quick.title(0, 0), 0);
        CHECK.due("496 changes", quick.count(11), 496);
    }

    // ---- told

    private static void toldOfWhom() {
        PaperTown town = new PaperTown();
        CHECK.due("nobody there yet", town.told(0, 0), PaperTown.UNKNOWN);
        for (int p = 0; p < 20; p++) {
            town.person(p);
        }
        CHECK.due("the first", town.told(0, 0), 0);
        CHECK.due("the last", town.told(19, 0), 19);
        for (int p : new int[] {LEAST, -1, 20, 21, MOST}) {
            CHECK.due("person " + p, town.told(p, 1), PaperTown.UNKNOWN);
            CHECK.due("unknown ahead of outside, " + p, town.told(p, 4), PaperTown.UNKNOWN);
        }
    }

    private static void toldWhat() {
        PaperTown town = new PaperTown();
        town.person(6);
        CHECK.due("0", town.told(0, 0), 6);
        CHECK.due("3", town.told(0, 3), 0);
        for (int what : new int[] {LEAST, -1, 4, 5, MOST}) {
            CHECK.due("what " + what, town.told(0, what), PaperTown.OUTSIDE);
        }
    }

    private static void toldOfWhoHasNothing() {
        PaperTown town = Check.town("b0 0 1 1 1");
        town.person(0);
        CHECK.due("no money", town.told(0, 0), 0);
        CHECK.due("no lots", town.told(0, 1), 0);
        CHECK.due("lives nowhere", town.told(0, 2), PaperTown.NONE);
        CHECK.due("owes nothing", town.told(0, 3), 0);
        town.bid(0, 0, 4);
        CHECK.due("a bid is no lot", town.told(0, 1), 0);
        CHECK.due("and no debt", town.told(0, 3), 0);
    }

    private static void toldOfWhoHasAll() {
        PaperTown town = Check.town(FORTY);
        town.person(ALL);
        for (int l = 0; l < 40; l++) {
            Check.buy(town, l, 0, 100);
        }
        CHECK.due("forty lots", town.told(0, 1), 40);
        CHECK.due("money", town.told(0, 0), ALL - 40 * 25);
        CHECK.due("owed", town.told(0, 3), 40 * 75);
        CHECK.due("the company has none", town.count(5), 0);
        Check.until(town, 365);
        CHECK.due("owed no more", town.told(0, 3), 0);
        CHECK.due("lives on one alone", town.count(4), 1);
        CHECK.due("the one at the halt", town.told(0, 2), 0);
        PaperTown dear = Check.town("b0 0 1 1 4");
        dear.person(ALL);
        for (int l = 0; l < 4; l++) {
            Check.buy(dear, l, 0, ALL);
        }
        CHECK.due("four of the dearest", dear.told(0, 3), 3000000);
        CHECK.due("all his money", dear.told(0, 0), 0);
    }

    // ---- count

    private static void countWhat() {
        PaperTown town = new PaperTown();
        for (int what = 0; what <= 13; what++) {
            CHECK.due("count " + what, town.count(what), 0);
        }
        for (int what : new int[] {LEAST, -1, 14, 15, MOST}) {
            CHECK.due("count " + what, town.count(what), PaperTown.OUTSIDE);
        }
    }

    private static void countsOfAFullTown() {
        PaperTown town = Check.town(FORTY);
        Check.type(town, "s0 9 0 1 ".repeat(12));
        town.draw();
        for (int p = 0; p < 20; p++) {
            town.person(ALL);
            Check.buy(town, p, p, 4);
        }
        Check.type(town, " ".repeat(200));
        town.halt(19, 15);
        town.rate(100);
        Check.until(town, 9999);
        int[] due = {40, 12, 20, 9999, 20, 20, 0, 0, 80};
        for (int what = 0; what < due.length; what++) {
            CHECK.due("full, count " + what, town.count(what), due[what]);
        }
        int taxes = 0;
        for (int p = 0; p < 20; p++) {
            taxes += ALL - 4 - town.told(p, 0);
        }
        CHECK.due("full, taxes", town.count(9), taxes);
        CHECK.due("full, bytes", town.count(10), 200);
        CHECK.due("full, changes", town.count(11), 20);
        CHECK.due("full, area", town.count(12), 80);
        CHECK.due("full, halt", town.count(13), 319);
    }

    private static void countOfChanges() {
        PaperTown town = Check.town("b0 0 1 1 2 g5 5 1 1");
        town.person(0);
        town.person(0);
        Check.buy(town, 0, 0, 4);
        CHECK.due("nobody bought", town.count(11), 0);
        Check.buy(town, 0, 0, 3);
        CHECK.due("bought", town.count(11), 1);
        town.pass(0, 1);
        CHECK.due("passed", town.count(11), 2);
        town.give(2, 0, 0);
        CHECK.due("given", town.count(11), 3);
        town.days(1);
        CHECK.due("gone back", town.count(11), 4);
        Check.until(town, 131);
        CHECK.due("forfeit", town.count(11), 5);
        town.give(2, 0, 9999);
        town.rate(100);
        Check.until(town, 730);
        CHECK.due("given and taken", town.count(11), 7);
        Check.until(town, 1095);
        CHECK.due("no more", town.count(11), 7);
    }

    private static void countOfTheCompany() {
        PaperTown town = Check.town("b0 0 1 1 2 g5 5 1 1 g7 7 1 1");
        CHECK.due("all, gifts too", town.count(5), 4);
        town.person(5);
        Check.buy(town, 0, 0, 4);
        CHECK.due("one is bought", town.count(5), 3);
        town.give(2, 0, 0);
        CHECK.due("one is given", town.count(5), 2);
        town.days(1);
        CHECK.due("it is nobody's again", town.count(5), 3);
    }

    // ---- bond

    /** So many people of so much money live on gifts of their own. */
    private static PaperTown living(int... moneys) {
        PaperTown town = new PaperTown();
        for (int p = 0; p < moneys.length; p++) {
            Check.type(town, "g" + p + " " + p % 2 * 2 + " 1 1");
            town.draw();
            town.person(moneys[p]);
            town.give(p, p, 9999);
        }
        Check.until(town, 365);
        CHECK.due("live there", town.count(4), moneys.length);
        return town;
    }

    private static void bondsOfSums() {
        PaperTown town = living(ALL);
        for (int sum : new int[] {LEAST, -1, 0, 1000001, MOST}) {
            CHECK.due("sum " + sum, town.bond(sum, 0), PaperTown.OUTSIDE);
            CHECK.due("taken, sum " + sum, town.bond(sum, 1), PaperTown.OUTSIDE);
        }
        CHECK.due("the least", town.bond(1, 0), 1);
        CHECK.due("the most", town.bond(1000000, 0), 0);
        CHECK.due("a tenth of the most", town.bond(100000, 0), 1);
    }

    private static void bondWhat() {
        PaperTown town = living(ALL);
        for (int what : new int[] {LEAST, -1, 2, 3, MOST}) {
            CHECK.due("what " + what, town.bond(1, what), PaperTown.OUTSIDE);
            CHECK.due("what and sum " + what, town.bond(0, what), PaperTown.OUTSIDE);
        }
        CHECK.due("0", town.bond(1, 0), 1);
        CHECK.due("1", town.bond(1, 1), 1);
    }

    private static void bondWithNobody() {
        PaperTown town = new PaperTown();
        CHECK.due("nobody there", town.bond(1, 0), 0);
        CHECK.due("not taken", town.bond(1, 1), 0);
        CHECK.due("the most", town.bond(1000000, 1), 0);
        town.person(ALL);
        CHECK.due("he does not live there", town.bond(1, 0), 0);
        CHECK.due("outside all the same", town.bond(0, 0), PaperTown.OUTSIDE);
    }

    private static void bondOfATenth() {
        int[][] due = {{0, 1, 0}, {9, 1, 0}, {10, 1, 1}, {19, 2, 0}, {20, 2, 1}, {999999, 100000, 0},
            {1000000, 100000, 1}, {1000000, 100001, 0}, {99, 9, 1}, {99, 10, 0}};
        for (int[] row : due) {
            PaperTown town = living(row[0]);
            CHECK.due("with " + row[0] + " for " + row[1], town.bond(row[1], 0), row[2]);
            CHECK.due("taken with " + row[0] + " for " + row[1], town.bond(row[1], 1), row[2]);
        }
    }

    private static void bondIsCut() {
        PaperTown poor = living(0, 0, 0);
        CHECK.due("2 / 3 is nothing", poor.bond(2, 0), 3);
        CHECK.due("3 / 3 is one", poor.bond(3, 0), 0);
        PaperTown town = living(10, 10, 10);
        CHECK.due("5 / 3 is one", town.bond(5, 0), 3);
        CHECK.due("6 / 3 is two", town.bond(6, 0), 0);
    }

    private static void bondOfMoreThanHalf() {
        PaperTown two = living(10, 0);
        CHECK.due("one of two", two.bond(2, 0), 1);
        CHECK.due("half is not enough", two.bond(2, 1), 0);
        two.money(1, 10);
        CHECK.due("two of two", two.bond(2, 1), 1);
        PaperTown three = living(10, 0, 10);
        CHECK.due("two of three", three.bond(3, 0), 2);
        CHECK.due("taken", three.bond(3, 1), 1);
        three.money(2, -1);
        CHECK.due("one of three", three.bond(3, 0), 1);
        CHECK.due("not taken", three.bond(3, 1), 0);
        PaperTown four = living(10, 10, 0, 0);
        CHECK.due("two of four", four.bond(4, 1), 0);
        four.money(3, 10);
        CHECK.due("three of four", four.bond(4, 1), 1);
    }

    private static void bondOfWhoLivesThere() {
        PaperTown town = living(10, 10);
        town.person(ALL);
        CHECK.due("two vote", town.bond(2, 0), 2);
        town.pass(1, 2);
        CHECK.due("one is left, who has it all to pay", town.bond(2, 0), 0);
        CHECK.due("one pays one", town.bond(1, 0), 1);
        CHECK.due("taken", town.bond(1, 1), 1);
        town.pass(0, 2);
        CHECK.due("nobody is left", town.bond(1, 0), 0);
        CHECK.due("not taken", town.bond(1, 1), 0);
        Check.until(town, 730);
        CHECK.due("an owner of two has one vote", town.bond(1, 0), 1);
    }

    private static void bondOfTwenty() {
        int[] moneys = new int[20];
        for (int p = 0; p < 20; p++) {
            moneys[p] = p < 10 ? 500000 : 499999;
        }
        PaperTown town = living(moneys);
        CHECK.due("ten of twenty", town.bond(1000000, 0), 10);
        CHECK.due("half", town.bond(1000000, 1), 0);
        town.money(19, 1);
        CHECK.due("eleven", town.bond(1000000, 0), 11);
        CHECK.due("more than half", town.bond(1000000, 1), 1);
        CHECK.due("all of them", town.bond(999999, 0), 20);
    }

    private static void bondChangesNothing() {
        Check.Story settled = town -> {
            Check.type(town, "g0 0 1 1 g2 2 1 1");
            town.draw();
            for (int p = 0; p < 2; p++) {
                town.person(10 * p);
                town.give(p, p, 9999);
            }
            Check.until(town, 365);
        };
        Check.Story votes = town -> {
            CHECK.due("one says yes", town.bond(2, 0), 1);
            CHECK.due("not taken", town.bond(2, 1), 0);
            CHECK.due("taken", town.bond(1, 1), 1);
        };
        CHECK.due("unchanged", Check.state(settled).equals(Check.state(settled, votes)) ? 1 : 0, 1);
    }
}
