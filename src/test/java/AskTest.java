/** Promises 17 to 20: title, told, count, bond; and that asking changes nothing. */
public final class AskTest {
    private static final Check CHECK = new Check();

    public static void main(String[] args) {
        titles();
        titleOfLaterLots();
        titleRefuses();
        toldOfPersons();
        toldRefuses();
        counts();
        bondVotes();
        bondRefuses();
        askingChangesNothing();
        CHECK.end();
    }

    private static void titles() {
        PaperTown town = Check.town("b0 0 1 1 2");
        town.person(10);
        town.person(0);
        town.days(5);
        Check.buy(town, 0, 0, 40);
        CHECK.due("before", town.title(0, 4), PaperTown.NONE);
        CHECK.due("now", town.title(0, 5), 0);
        town.pass(0, 1);
        CHECK.due("the last of the day", town.title(0, 5), 1);
        town.days(2);
        town.pass(0, 0);
        CHECK.due("the day ahead", town.title(0, 6), 1);
        CHECK.due("now", town.title(0, 7), 0);
        Check.until(town, 300);
        int[][] due = {{0, -1}, {4, -1}, {5, 1}, {6, 1}, {7, 0}, {100, 0}, {134, 0}, {135, -1}, {300, -1}};
        for (int[] row : due) {
            CHECK.due("title on " + row[0], town.title(0, row[0]), row[1]);
            CHECK.due("the other's on " + row[0], town.title(1, row[0]), PaperTown.NONE);
        }
        CHECK.due("titles", town.count(11), 4);
    }

    private static void titleOfLaterLots() {
        PaperTown town = Check.town("");
        town.person(10);
        town.days(50);
        Check.type(town, "g0 0 1 1");
        town.draw();
        CHECK.due("before it was drawn", town.title(0, 3), PaperTown.NONE);
        CHECK.due("from the beginning", town.lot(0, 9), PaperTown.NONE);
        town.give(0, 0, 60);
        CHECK.due("given", town.title(0, 50), 0);
        CHECK.due("the day ahead", town.title(0, 49), PaperTown.NONE);
    }

    private static void titleRefuses() {
        PaperTown town = Check.town("b0 0 1 1 2");
        town.days(3);
        CHECK.due("lot", town.title(2, 0), PaperTown.UNKNOWN);
        CHECK.due("lot -1", town.title(-1, 0), PaperTown.UNKNOWN);
        CHECK.due("unknown ahead of outside", town.title(2, 4), PaperTown.UNKNOWN);
        CHECK.due("tomorrow", town.title(0, 4), PaperTown.OUTSIDE);
        CHECK.due("day -1", town.title(0, -1), PaperTown.OUTSIDE);
        CHECK.due("today", town.title(0, 3), PaperTown.NONE);
    }

    private static PaperTown settled() {
        return Check.toldTown(AskTest::settle);
    }

    private static void settle(PaperTown town) {
        Check.type(town, "b0 0 1 1 4 g10 10 1 1 s0 1 0 3");
        town.draw();
        town.person(1000);
        town.person(201);
        town.person(100);
        town.person(5000);
        Check.buy(town, 0, 0, 4);
        Check.buy(town, 1, 1, 4);
        Check.buy(town, 2, 0, 4);
        town.give(4, 2, 9999);
        Check.until(town, 365);
        town.money(0, 1000 - town.told(0, 0));
        town.money(1, 201 - town.told(1, 0));
    }

    private static void toldOfPersons() {
        PaperTown town = settled();
        Check.buy(town, 3, 0, 403); // 100, then 101, 101, 101
        int[][] due = {{900, 3, 0, 303}, {201, 1, 1, 0}, {100, 1, 4, 0}, {5000, 0, -1, 0}};
        for (int p = 0; p < due.length; p++) {
            for (int what = 0; what < 4; what++) {
                CHECK.due("told " + p + ", " + what, town.told(p, what), due[p][what]);
            }
        }
    }

    private static void toldRefuses() {
        PaperTown town = settled();
        CHECK.due("who", town.told(4, 0), PaperTown.UNKNOWN);
        CHECK.due("who -1", town.told(-1, 0), PaperTown.UNKNOWN);
        CHECK.due("unknown ahead of outside", town.told(4, 4), PaperTown.UNKNOWN);
        CHECK.due("what 4", town.told(0, 4), PaperTown.OUTSIDE);
        CHECK.due("what -1", town.told(0, -1), PaperTown.OUTSIDE);
    }

    private static void counts() {
        PaperTown town = settled();
        town.feed(3, 0);
        town.halt(2, 1);
        int[] due = {5, 1, 4, 365, 3, 1, 0, 0, 12, 0, 3, 4, 10, 22};
        for (int what = 0; what < due.length; what++) {
            CHECK.due("count " + what, town.count(what), due[what]);
        }
        CHECK.due("count 14", town.count(14), PaperTown.OUTSIDE);
        CHECK.due("count -1", town.count(-1), PaperTown.OUTSIDE);
    }

    private static void bondVotes() {
        PaperTown town = settled(); // 1000, 201 and 100 live there, 5000 does not
        int[][] due = {{1, 3, 1}, {32, 3, 1}, {33, 2, 1}, {30, 3, 1}, {60, 2, 1}, {62, 2, 1}, {63, 1, 0},
            {302, 1, 0}, {303, 0, 0}, {1000000, 0, 0}};
        int[] moneys = {1000, 201, 100};
        for (int[] row : due) {
            int yes = 0;
            for (int money : moneys) {
                yes += row[0] / 3 <= money / 10 ? 1 : 0;
            }
            CHECK.due("yes for " + row[0], town.bond(row[0], 0), yes);
            CHECK.due("taken " + row[0], town.bond(row[0], 1), 2 * yes > 3 ? 1 : 0);
        }
        CHECK.due("a third of 32 is 10", town.bond(32, 0), 3);
        CHECK.due("a third of 33 is 11", town.bond(33, 0), 2);
        CHECK.due("a tenth of 201 is 20", town.bond(62, 0), 2);
        CHECK.due("no more", town.bond(63, 0), 1);
        town.pass(4, 3);
        CHECK.due("two live there", town.count(4), 2);
        CHECK.due("one of two", town.bond(100, 0), 1);
        CHECK.due("half is not more than half", town.bond(100, 1), 0);
        CHECK.due("both", town.bond(41, 1), 1);
    }

    private static void bondRefuses() {
        PaperTown town = settled();
        CHECK.due("0", town.bond(0, 0), PaperTown.OUTSIDE);
        CHECK.due("-1", town.bond(-1, 0), PaperTown.OUTSIDE);
        CHECK.due("too much", town.bond(1000001, 0), PaperTown.OUTSIDE);
        CHECK.due("what 2", town.bond(1, 2), PaperTown.OUTSIDE);
        CHECK.due("what -1", town.bond(1, -1), PaperTown.OUTSIDE);
        PaperTown empty = new PaperTown();
        CHECK.due("nobody says yes", empty.bond(1, 0), 0);
        CHECK.due("not taken", empty.bond(1, 1), 0);
    }

    private static void askingChangesNothing() {
        Check.Story asking = town -> {
            town.bond(100, 0);
            town.bond(100, 1);
            town.title(0, 100);
        };
        boolean same = Check.state(AskTest::settle).equals(Check.state(AskTest::settle, asking));
        CHECK.due("the same", same ? 1 : 0, 1);
    }
}
