import java.util.function.ToIntFunction;

/**
 * What is refused changes nothing: each refusal of each call, in a town of every kind of thing, in a full
 * one and in an empty one. The state is asked before and after; and what no call shows (the text's bytes,
 * the bids, the rate, the conditions) shows itself in what comes of the town later.
 */
public final class RefusalTest {
    private static final Check CHECK = new Check();
    private static final int UNKNOWN = PaperTown.UNKNOWN, OUTSIDE = PaperTown.OUTSIDE, NOT = PaperTown.NOT,
        FULL = PaperTown.FULL;
    private static final int LEAST = Integer.MIN_VALUE, MOST = Integer.MAX_VALUE;

    private final String where;
    private final Check.Story story;
    private final String before;

    private RefusalTest(String where, Check.Story story) {
        this.where = where;
        this.story = story;
        this.before = allOf(story);
    }

    public static void main(String[] args) {
        RefusalTest lively = new RefusalTest("lively", RefusalTest::livelyTown);
        lively.unknown();
        lively.outside();
        lively.notNow();
        RefusalTest full = new RefusalTest("full", RefusalTest::fullTown);
        full.fullAndLast();
        RefusalTest empty = new RefusalTest("empty", town -> { });
        empty.nothingThere();
        CHECK.end();
    }

    /**
     * Lots: 0 owned, owed for and lived on, 1 with bids, 2 the company's, 3 a gift lived on, 4 a gift with a
     * condition to come, 5 nobody's gift. Streets: 0 open, 1 vacated. A text waits, the draw ahead had a fault.
     */
    private static void livelyTown(PaperTown town) {
        Check.type(town, "b0 0 1 1 3 g5 5 1 1 g7 7 1 1 g9 9 1 1 s0 1 0 5 s12 0 1 5");
        town.draw();
        town.vacate(1);
        town.halt(3, 3);
        town.person(50);
        town.person(1000);
        town.person(999999);
        town.days(300);
        Check.buy(town, 0, 0, 60);
        town.give(3, 1, 9999);
        Check.until(town, 370);
        town.rate(5);
        town.bid(1, 1, 40);
        town.bid(1, 2, 40);
        town.give(4, 2, 500);
        town.feed(3, 0x207820);
        town.draw();
        Check.type(town, "g15 15 1 1");
    }

    private static void fullTown(PaperTown town) {
        Check.type(town, "b0 0 1 1 9 b0 1 1 1 9 b0 2 1 1 9 b0 3 1 1 9 b0 4 1 1 4");
        town.draw();
        Check.type(town, "s0 9 0 1 ".repeat(12));
        town.draw();
        for (int p = 0; p < 20; p++) {
            town.person(50000 * p);
        }
        Check.until(town, 9999);
        town.bid(3, 4, 100);
        Check.type(town, "g15 15 1 1 " + " ".repeat(189));
    }

    // ---- the refusals

    private void unknown() {
        for (int n : new int[] {LEAST, -1, 6, 40, MOST}) {
            refused("lot " + n, UNKNOWN, town -> town.lot(n, 0));
            refused("close " + n, UNKNOWN, town -> town.close(n));
            refused("bid for " + n, UNKNOWN, town -> town.bid(n, 0, 5));
            refused("pass of " + n, UNKNOWN, town -> town.pass(n, 0));
            refused("give of " + n, UNKNOWN, town -> town.give(n, 0, 400));
            refused("title of " + n, UNKNOWN, town -> town.title(n, 0));
        }
        for (int n : new int[] {LEAST, -1, 2, 12, 100, MOST}) {
            refused("vacate " + n, UNKNOWN, town -> town.vacate(n));
        }
        for (int n : new int[] {LEAST, -1, 3, 20, MOST}) {
            refused("money of " + n, UNKNOWN, town -> town.money(n, 5));
            refused("bid of " + n, UNKNOWN, town -> town.bid(1, n, 50));
            refused("pass to " + n, UNKNOWN, town -> town.pass(0, n));
            refused("give to " + n, UNKNOWN, town -> town.give(5, n, 400));
            refused("told of " + n, UNKNOWN, town -> town.told(n, 0));
        }
    }

    private void outside() {
        for (int n : new int[] {LEAST, -1, 0, 9, MOST}) {
            refused("feed " + n, OUTSIDE, town -> town.feed(n, 0x2020202020202020L));
        }
        for (int n : new int[] {LEAST, -1, 20, MOST}) {
            refused("cell x " + n, OUTSIDE, town -> town.cell(n, 0));
            refused("cell y " + n, OUTSIDE, town -> town.cell(0, n));
            refused("halt x " + n, OUTSIDE, town -> town.halt(n, 0));
            refused("halt y " + n, OUTSIDE, town -> town.halt(0, n));
            refused("lot, what " + n, OUTSIDE, town -> town.lot(0, n));
            refused("told, what " + n, OUTSIDE, town -> town.told(0, n));
            refused("count " + n, OUTSIDE, town -> town.count(n));
            refused("bond, what " + n, OUTSIDE, town -> town.bond(5, n));
        }
        for (int n : new int[] {LEAST, -1, 1000001, MOST}) {
            refused("person with " + n, OUTSIDE, town -> town.person(n));
            refused("bid of a sum " + n, OUTSIDE, town -> town.bid(1, 0, n));
            refused("bond of " + n, OUTSIDE, town -> town.bond(n, 0));
            refused("rate " + n, OUTSIDE, town -> town.rate(n));
            refused("days " + n, OUTSIDE, town -> town.days(n));
            refused("title on " + n, OUTSIDE, town -> town.title(0, n));
            refused("give for " + n, OUTSIDE, town -> town.give(5, 0, n));
        }
        for (int n : new int[] {LEAST, -1000001, -1000000, -36, 1000000, 1000001, MOST}) {
            refused("money " + n, OUTSIDE, town -> town.money(0, n));
        }
        refused("money above by one", OUTSIDE, town -> town.money(2, 2));
        refused("bid of 0", OUTSIDE, town -> town.bid(1, 1, 0));
        refused("rate 101", OUTSIDE, town -> town.rate(101));
        refused("days 1001", OUTSIDE, town -> town.days(1001));
        refused("title of tomorrow", OUTSIDE, town -> town.title(0, 371));
        refused("give for yesterday", OUTSIDE, town -> town.give(5, 0, 369));
        refused("give for 10000", OUTSIDE, town -> town.give(5, 0, 10000));
    }

    private void notNow() {
        refused("vacated", NOT, town -> town.vacate(1));
        refused("bid for an owned lot", NOT, town -> town.bid(0, 1, 99));
        refused("bid of its owner", NOT, town -> town.bid(0, 0, 99));
        refused("bid for a gift", NOT, town -> town.bid(5, 0, 99));
        refused("bid for somebody's gift", NOT, town -> town.bid(3, 0, 99));
        refused("close without bids", NOT, town -> town.close(2));
        refused("close an owned lot", NOT, town -> town.close(0));
        refused("close a gift", NOT, town -> town.close(5));
        refused("pass the company's", NOT, town -> town.pass(2, 0));
        refused("pass what has bids", NOT, town -> town.pass(1, 1));
        refused("pass nobody's gift", NOT, town -> town.pass(5, 0));
        refused("pass what is his", NOT, town -> town.pass(0, 0));
        refused("pass the gift that is his", NOT, town -> town.pass(4, 2));
        refused("give a lot", NOT, town -> town.give(2, 0, 400));
        refused("give an owned lot", NOT, town -> town.give(0, 0, 400));
        refused("give somebody's gift", NOT, town -> town.give(4, 0, 400));
        refused("give him his gift", NOT, town -> town.give(4, 2, 9999));
    }

    private void fullAndLast() {
        for (int n = 1; n <= 8; n++) {
            int bytes = n;
            refused("feed " + n, FULL, town -> town.feed(bytes, 'x'));
        }
        refused("feed 9", OUTSIDE, town -> town.feed(9, 'x'));
        refused("person", FULL, town -> town.person(0));
        refused("person with all", FULL, town -> town.person(1000000));
        refused("person with too much", OUTSIDE, town -> town.person(1000001));
        refused("a day", NOT, town -> town.days(1));
        refused("a thousand days", NOT, town -> town.days(1000));
        refused("too many days", OUTSIDE, town -> town.days(1001));
        refused("lot 40", UNKNOWN, town -> town.lot(40, 0));
        refused("bid for lot 40", UNKNOWN, town -> town.bid(40, 0, 1));
        refused("street 12", UNKNOWN, town -> town.vacate(12));
        refused("person 20", UNKNOWN, town -> town.told(20, 0));
        refused("money of person 20", UNKNOWN, town -> town.money(20, 1));
        refused("bid of person 20", UNKNOWN, town -> town.bid(0, 20, 1));
        refused("title on 10000", OUTSIDE, town -> town.title(0, 10000));
    }

    private void nothingThere() {
        refused("lot", UNKNOWN, town -> town.lot(0, 0));
        refused("vacate", UNKNOWN, town -> town.vacate(0));
        refused("money", UNKNOWN, town -> town.money(0, 0));
        refused("bid", UNKNOWN, town -> town.bid(0, 0, 1));
        refused("close", UNKNOWN, town -> town.close(0));
        refused("pass", UNKNOWN, town -> town.pass(0, 0));
        refused("give", UNKNOWN, town -> town.give(0, 0, 0));
        refused("title", UNKNOWN, town -> town.title(0, 0));
        refused("told", UNKNOWN, town -> town.told(0, 0));
        refused("feed", OUTSIDE, town -> town.feed(0, 'x'));
        refused("person", OUTSIDE, town -> town.person(-1));
        refused("days", OUTSIDE, town -> town.days(-1));
    }

    // ---- before and after

    private void refused(String call, int refusal, ToIntFunction<PaperTown> asked) {
        String name = where + ": " + call;
        CHECK.due(name, asked.applyAsInt(Check.toldTown(story)), refusal);
        boolean same = before.equals(allOf(story, asked::applyAsInt));
        CHECK.due(name + " changes nothing", same ? 1 : 0, 1);
    }

    /** The state at once, and the states in which the text, the bids, the rate and the conditions show. */
    private static String allOf(Check.Story... chapters) {
        StringBuilder all = new StringBuilder(Check.state(chapters));
        all.append("rate ").append(Check.toldTown(chapters).rate(0)).append('\n');
        for (Check.Story later : new Check.Story[] {PaperTown::draw, RefusalTest::closeAll, RefusalTest::yearsLater}) {
            all.append(Check.state(with(chapters, later)));
        }
        return all.toString();
    }

    private static Check.Story[] with(Check.Story[] chapters, Check.Story last) {
        Check.Story[] all = new Check.Story[chapters.length + 1];
        System.arraycopy(chapters, 0, all, 0, chapters.length);
        all[chapters.length] = last;
        return all;
    }

    private static void closeAll(PaperTown town) {
        for (int l = 0; l < town.count(0); l++) {
            town.close(l);
        }
    }

    private static void yearsLater(PaperTown town) {
        town.days(135);
        town.days(365);
    }
}
