import java.util.ArrayList;
import java.util.Arrays;

/** Towns on paper: the plat, the sales, the titles led day by day. */
public final class PaperTown {
    public static final int NONE = -1, UNKNOWN = -1001, OUTSIDE = -1002, NOT = -1003, FULL = -1004;

    private static final int WIDTH = 20, HEIGHT = 16, CELLS = WIDTH * HEIGHT;
    private static final int MOST_LOTS = 40, MOST_STREETS = 12, MOST_PERSONS = 20;
    private static final int MOST_BYTES = 200, MOST_MONEY = 1000000;
    private static final int LAST_DAY = 9999, MOST_DAYS = 1000;
    private static final int STREET = 100, VACATED = 200;

    private final Text text;
    private final Office office;

    public PaperTown() {
        text = new Text();
        office = new Office();
    }

    // ---- the plat

    public int feed(int n, long bytes) {
        if (n < 1 || n > 8) {
            return OUTSIDE;
        }
        return text.append(n, bytes) ? text.length : FULL;
    }

    public int draw() {
        int fault = text.drawOn(office.plat);
        return fault == 0 ? office.plat.lots.size() : -10 - fault;
    }

    public int place() {
        return text.faultAt;
    }

    public int cell(int x, int y) {
        return isOnGrass(x, y) ? office.plat.at(x, y) : OUTSIDE;
    }

    public int lot(int l, int what) {
        Lot lot = office.plat.lotAt(l);
        if (lot == null) {
            return UNKNOWN;
        }
        switch (what) {
            case 0: return lot.area();
            case 1: return lot.owner;
            case 2: return lot.gift ? 1 : 0;
            case 3: return office.plat.worthOf(lot);
            case 4: return lot.lived ? lot.owner : NONE;
            case 5: return lot.owed;
            case 6: return lot.partsLeft > 0 ? lot.due : NONE;
            case 7: return lot.yearsOut;
            case 8: return lot.y * WIDTH + lot.x;
            case 9: return lot.since;
            default: return OUTSIDE;
        }
    }

    public int vacate(int street) {
        if (!office.plat.hasStreet(street)) {
            return UNKNOWN;
        }
        return office.plat.isVacated(street) ? NOT : office.plat.giveUpStreet(street);
    }

    public int halt(int x, int y) {
        if (!isOnGrass(x, y)) {
            return OUTSIDE;
        }
        int before = office.plat.haltCell;
        office.plat.haltCell = y * WIDTH + x;
        return before;
    }

    // ---- people, sales

    public int person(int money) {
        if (money < 0 || money > MOST_MONEY) {
            return OUTSIDE;
        }
        return office.people.add(money);
    }

    public int money(int p, int v) {
        if (!office.people.has(p)) {
            return UNKNOWN;
        }
        if (v < -MOST_MONEY || v > MOST_MONEY) {
            return OUTSIDE;
        }
        int then = office.people.purse(p) + v;
        if (then < 0 || then > MOST_MONEY) {
            return OUTSIDE;
        }
        office.people.fillPurse(p, then);
        return then;
    }

    public int bid(int lot, int p, int sum) {
        Lot wanted = office.plat.lotAt(lot);
        if (wanted == null || !office.people.has(p)) {
            return UNKNOWN;
        }
        if (sum < 1 || sum > MOST_MONEY) {
            return OUTSIDE;
        }
        if (wanted.gift || wanted.owner != NONE) {
            return NOT;
        }
        wanted.takeBid(p, sum);
        return wanted.bids.size();
    }

    public int close(int lot) {
        Lot sold = office.plat.lotAt(lot);
        if (sold == null) {
            return UNKNOWN;
        }
        return sold.bids.isEmpty() ? NOT : office.sell(sold);
    }

    public int pass(int lot, int p) {
        Lot passed = office.plat.lotAt(lot);
        if (passed == null || !office.people.has(p)) {
            return UNKNOWN;
        }
        if (passed.owner == NONE || passed.owner == p) {
            return NOT;
        }
        office.changeTitle(passed, p);
        return 1;
    }

    public int give(int lot, int p, int day) {
        Lot given = office.plat.lotAt(lot);
        if (given == null || !office.people.has(p)) {
            return UNKNOWN;
        }
        if (day < office.now || day > LAST_DAY) {
            return OUTSIDE;
        }
        if (!given.gift || given.owner != NONE) {
            return NOT;
        }
        given.condition = day;
        office.changeTitle(given, p);
        return 1;
    }

    public int rate(int v) {
        if (v < 0 || v > 100) {
            return OUTSIDE;
        }
        int before = office.taxRate;
        office.taxRate = v;
        return before;
    }

    // ---- days

    public int days(int n) {
        if (n < 0 || n > MOST_DAYS) {
            return OUTSIDE;
        }
        if (office.now + n > LAST_DAY) {
            return NOT;
        }
        for (int i = 0; i < n; i++) {
            office.endDay();
        }
        return office.now;
    }

    public int title(int lot, int day) {
        Lot asked = office.plat.lotAt(lot);
        if (asked == null) {
            return UNKNOWN;
        }
        return day < 0 || day > office.now ? OUTSIDE : asked.ownerOn(day);
    }

    public int told(int p, int what) {
        if (!office.people.has(p)) {
            return UNKNOWN;
        }
        switch (what) {
            case 0: return office.people.purse(p);
            case 1: return office.plat.ownedBy(p);
            case 2: return office.plat.homeOf(p);
            case 3: return office.plat.owedBy(p);
            default: return OUTSIDE;
        }
    }

    public int count(int what) {
        switch (what) {
            case 0: return office.plat.lots.size();
            case 1: return office.plat.streets;
            case 2: return office.people.size;
            case 3: return office.now;
            case 4: return office.plat.livedOn();
            case 5: return office.plat.ownedBy(NONE);
            case 6: return office.forfeits;
            case 7: return office.takenForTaxes;
            case 8: return office.income;
            case 9: return office.taxesPaid;
            case 10: return text.length;
            case 11: return office.changes;
            case 12: return office.plat.areaOfAll();
            case 13: return office.plat.haltCell;
            default: return OUTSIDE;
        }
    }

    public int bond(int sum, int what) {
        if (sum < 1 || sum > MOST_MONEY || what < 0 || what > 1) {
            return OUTSIDE;
        }
        int living = office.plat.livedOn();
        int yes = office.votesFor(sum, living);
        if (what == 0) {
            return yes;
        }
        return 2 * yes > living ? 1 : 0;
    }

    private static boolean isOnGrass(int x, int y) {
        return x >= 0 && x < WIDTH && y >= 0 && y < HEIGHT;
    }

    /** THE TEXT, and the reading of it. */
    private static final class Text {
        private static final int BLANK = 32, END = -1;
        private static final int CANNOT_STAND = 1, BAD_NUMBER = 2, BAD_GROUND = 3, TOO_MANY = 4;
        private static final int[] BLOCK_LEAST = {0, 0, 1, 1, 1};
        private static final int[] BLOCK_MOST = {19, 15, 9, 9, 9};
        private static final int[] STREET_LEAST = {0, 0, 0, 1};
        private static final int[] STREET_MOST = {19, 15, 1, 20};
        private static final int[] GIFT_LEAST = {0, 0, 1, 1};
        private static final int[] GIFT_MOST = {19, 15, 9, 9};

        private final byte[] bytes = new byte[MOST_BYTES];
        private final int[] numbers = new int[5];
        int length;
        int faultAt = NONE;
        private int fault;
        private int pos;

        boolean append(int n, long word) {
            if (length + n > bytes.length) {
                return false;
            }
            for (int i = n - 1; i >= 0 && length < bytes.length; i--) {
                bytes[length] = (byte) (word >> (8 * i));
                length++;
            }
            return true;
        }

        /** Draws all orders or none, and empties the text: the number of the fault, 0 without one. */
        int drawOn(Plat plat) {
            int lotsBefore = plat.lots.size();
            int streetsBefore = plat.streets;
            pos = 0;
            fault = 0;
            faultAt = NONE;
            // An order takes a byte at the least, so there are never more orders than bytes.
            for (int orders = 0; orders < MOST_BYTES && isOrderAhead(); orders++) {
                readOrder(plat);
            }
            if (fault != 0) {
                plat.cutBack(lotsBefore, streetsBefore);
            }
            length = 0;
            return fault;
        }

        private boolean isOrderAhead() {
            if (fault != 0) {
                return false;
            }
            skipBlanks();
            return pos < length;
        }

        private void readOrder(Plat plat) {
            int letterAt = pos;
            pos++;
            switch (byteAt(letterAt)) {
                case 'b':
                    if (readNumbers(BLOCK_LEAST, BLOCK_MOST)) {
                        layLots(plat, letterAt, numbers[4], false);
                    }
                    break;
                case 's':
                    if (readNumbers(STREET_LEAST, STREET_MOST)) {
                        layStreet(plat, letterAt);
                    }
                    break;
                case 'g':
                    if (readNumbers(GIFT_LEAST, GIFT_MOST)) {
                        layLots(plat, letterAt, 1, true);
                    }
                    break;
                default:
                    fail(CANNOT_STAND, letterAt);
                    break;
            }
            if (fault == 0 && pos < length && byteAt(pos) != BLANK) {
                fail(CANNOT_STAND, pos);
            }
        }

        private boolean readNumbers(int[] least, int[] most) {
            for (int k = 0; k < least.length && k < most.length && k < numbers.length; k++) {
                if (k > 0 && byteAt(pos) != BLANK) {
                    fail(CANNOT_STAND, pos);
                    return false;
                }
                skipBlanks();
                numbers[k] = readNumber(least[k], most[k]);
                if (fault != 0) {
                    return false;
                }
            }
            return true;
        }

        private int readNumber(int least, int most) {
            int first = pos;
            int value = 0;
            for (; pos < length && isFigure(byteAt(pos)); pos++) {
                value = 10 * value + byteAt(pos) - '0';
            }
            if (pos == first) {
                fail(CANNOT_STAND, pos);
            } else if (pos - first > 2 || value < least || value > most) {
                fail(BAD_NUMBER, first);
            }
            return value;
        }

        private void layLots(Plat plat, int letterAt, int n, boolean gift) {
            int x = numbers[0];
            int y = numbers[1];
            int w = numbers[2];
            int h = numbers[3];
            if (!plat.isFree(x, y, n * w, h, false)) {
                fail(BAD_GROUND, letterAt);
            } else if (plat.lots.size() + n > MOST_LOTS) {
                fail(TOO_MANY, letterAt);
            } else {
                for (int i = 0; i < n; i++) {
                    plat.addLot(x + i * w, y, w, h, gift);
                }
            }
        }

        private void layStreet(Plat plat, int letterAt) {
            int x = numbers[0];
            int y = numbers[1];
            int w = numbers[2] == 0 ? numbers[3] : 1;
            int h = numbers[2] == 0 ? 1 : numbers[3];
            if (!plat.isFree(x, y, w, h, true)) {
                fail(BAD_GROUND, letterAt);
            } else if (plat.streets >= MOST_STREETS) {
                fail(TOO_MANY, letterAt);
            } else {
                plat.addStreet(x, y, w, h);
            }
        }

        private void skipBlanks() {
            for (; pos < length && byteAt(pos) == BLANK; pos++) {
                continue;
            }
        }

        private int byteAt(int i) {
            return i >= 0 && i < length && i < bytes.length ? bytes[i] & 255 : END;
        }

        private static boolean isFigure(int letter) {
            return letter >= '0' && letter <= '9';
        }

        private void fail(int kind, int at) {
            fault = kind;
            faultAt = at;
        }
    }

    /** THE GRASS and what is drawn on it. */
    private static final class Plat {
        private final int[] cells = new int[CELLS];
        private final boolean[] vacated = new boolean[MOST_STREETS];
        final ArrayList<Lot> lots = new ArrayList<>();
        int streets;
        int haltCell;

        Plat() {
            Arrays.fill(cells, NONE);
        }

        int at(int x, int y) {
            return isOnGrass(x, y) ? cells[y * WIDTH + x] : NONE;
        }

        Lot lotAt(int l) {
            return l >= 0 && l < lots.size() ? lots.get(l) : null;
        }

        boolean hasStreet(int street) {
            return street >= 0 && street < streets;
        }

        boolean isVacated(int street) {
            return street >= 0 && street < vacated.length && vacated[street];
        }

        /** Whether a lot, or a street that may cross streets, can be laid there. */
        boolean isFree(int x, int y, int w, int h, boolean crossing) {
            if (x < 0 || y < 0 || x + w > WIDTH || y + h > HEIGHT) {
                return false;
            }
            for (int cy = y; cy < y + h; cy++) {
                for (int cx = x; cx < x + w; cx++) {
                    int what = at(cx, cy);
                    if (what != NONE && !(crossing && what >= STREET)) {
                        return false;
                    }
                }
            }
            return true;
        }

        void addLot(int x, int y, int w, int h, boolean gift) {
            int number = lots.size();
            lots.add(new Lot(x, y, w, h, gift));
            markFree(x, y, w, h, number);
        }

        void addStreet(int x, int y, int w, int h) {
            int number = streets;
            streets++;
            markFree(x, y, w, h, STREET + number);
        }

        /** Where streets cross, a cell stays with the first one. */
        private void markFree(int x, int y, int w, int h, int what) {
            for (int cy = y; cy < y + h; cy++) {
                for (int cx = x; cx < x + w; cx++) {
                    if (isOnGrass(cx, cy) && cells[cy * WIDTH + cx] == NONE) {
                        cells[cy * WIDTH + cx] = what;
                    }
                }
            }
        }

        /** Takes away what was drawn behind so many lots and streets. */
        void cutBack(int lotsKept, int streetsKept) {
            for (int c = 0; c < cells.length; c++) {
                int what = cells[c];
                boolean newLot = what >= lotsKept && what < STREET;
                boolean newStreet = what >= STREET + streetsKept && what < VACATED;
                if (newLot || newStreet) {
                    cells[c] = NONE;
                }
            }
            for (int l = lots.size() - 1; l >= lotsKept && l >= 0; l--) {
                lots.remove(l);
            }
            streets = streetsKept;
        }

        int giveUpStreet(int street) {
            if (street < 0 || street >= vacated.length) {
                return 0;
            }
            vacated[street] = true;
            int went = 0;
            for (int c = 0; c < cells.length; c++) {
                if (cells[c] == STREET + street) {
                    cells[c] = VACATED + street;
                    went += shareOut(c % WIDTH, c / WIDTH) ? 1 : 0;
                }
            }
            return went;
        }

        private boolean shareOut(int x, int y) {
            Lot first = null;
            Lot second = null;
            for (int l = 0; l < lots.size() && second == null; l++) {
                Lot lot = lots.get(l);
                if (lot.isBeside(x, y, 1, 1)) {
                    second = first == null ? null : lot;
                    first = first == null ? lot : first;
                }
            }
            if (first == null) {
                return false;
            }
            if (second == null) {
                first.halvesFromStreets += 2;
            } else {
                first.halvesFromStreets++;
                second.halvesFromStreets++;
            }
            return true;
        }

        int worthOf(Lot lot) {
            int steps = Math.abs(lot.x - haltCell % WIDTH) + Math.abs(lot.y - haltCell / WIDTH);
            int worth = 10 * lot.area() + 200 / Math.max(1, 1 + steps);
            worth += 15 * livedBeside(lot);
            return isOpenStreetBeside(lot) ? worth + 30 : worth;
        }

        private int livedBeside(Lot lot) {
            int n = 0;
            for (int l = 0; l < lots.size(); l++) {
                Lot other = lots.get(l);
                if (other.lived && lot.isBeside(other.x, other.y, other.w, other.h)) {
                    n++;
                }
            }
            return n;
        }

        private boolean isOpenStreetBeside(Lot lot) {
            for (int y = lot.y - 1; y <= lot.y + lot.h; y++) {
                for (int x = lot.x - 1; x <= lot.x + lot.w; x++) {
                    int what = isOnGrass(x, y) ? cells[y * WIDTH + x] : NONE;
                    if (what >= STREET && what < VACATED && lot.isBeside(x, y, 1, 1)) {
                        return true;
                    }
                }
            }
            return false;
        }

        int areaOfAll() {
            int sum = 0;
            for (int l = 0; l < lots.size(); l++) {
                sum += lots.get(l).area();
            }
            return sum;
        }

        int livedOn() {
            int n = 0;
            for (int l = 0; l < lots.size(); l++) {
                n += lots.get(l).lived ? 1 : 0;
            }
            return n;
        }

        int ownedBy(int owner) {
            int n = 0;
            for (int l = 0; l < lots.size(); l++) {
                n += lots.get(l).owner == owner ? 1 : 0;
            }
            return n;
        }

        int owedBy(int owner) {
            int sum = 0;
            for (int l = 0; l < lots.size(); l++) {
                Lot lot = lots.get(l);
                sum += lot.owner == owner ? lot.owed : 0;
            }
            return sum;
        }

        int homeOf(int p) {
            for (int l = 0; l < lots.size(); l++) {
                Lot lot = lots.get(l);
                if (lot.lived && lot.owner == p) {
                    return l;
                }
            }
            return NONE;
        }

        /** The lot of greatest worth, of like ones the first; null if there is none. */
        Lot bestOf(int owner) {
            Lot best = null;
            int most = 0;
            for (int l = 0; l < lots.size(); l++) {
                Lot lot = lots.get(l);
                if (lot.owner == owner) {
                    int worth = worthOf(lot);
                    if (best == null || worth > most) {
                        best = lot;
                        most = worth;
                    }
                }
            }
            return best;
        }
    }

    /** A lot: its ground, its title, what is owed for it. */
    private static final class Lot {
        final int x, y, w, h;
        final boolean gift;
        int halvesFromStreets;
        final ArrayList<Bid> bids = new ArrayList<>();

        int owner = NONE;
        int since = NONE;
        private Title past;
        // Only an owner can live on a lot, so this tells who does.
        boolean lived;

        int owed;
        int partsLeft;
        private int part;
        int due;
        int yearsOut;
        int condition = NONE;

        Lot(int x, int y, int w, int h, boolean gift) {
            this.x = x;
            this.y = y;
            this.w = w;
            this.h = h;
            this.gift = gift;
        }

        int area() {
            return 2 * w * h + halvesFromStreets;
        }

        boolean isBeside(int ox, int oy, int ow, int oh) {
            boolean sharesColumns = x < ox + ow && ox < x + w;
            boolean sharesRows = y < oy + oh && oy < y + h;
            boolean meetsInX = x + w == ox || ox + ow == x;
            boolean meetsInY = y + h == oy || oy + oh == y;
            return sharesColumns && meetsInY || sharesRows && meetsInX;
        }

        void takeBid(int p, int sum) {
            for (int i = bids.size() - 1; i >= 0; i--) {
                if (bids.get(i).bidder == p) {
                    bids.remove(i);
                }
            }
            bids.add(new Bid(p, sum));
        }

        void keepTitle() {
            past = new Title(owner, since, past);
        }

        void passTo(int newOwner, int day) {
            owner = newOwner;
            since = day;
            lived = false;
        }

        int ownerOn(int day) {
            if (since <= day) {
                return owner;
            }
            for (Title t = past; t != null; t = t.past) {
                if (t.since <= day) {
                    return t.owner;
                }
            }
            return NONE;
        }

        void owe(int rest, int firstDue) {
            owed = rest;
            part = rest / 3;
            partsLeft = 3;
            due = firstDue;
        }

        int nextPart() {
            return partsLeft == 1 ? owed : part;
        }

        void tickOffPart() {
            owed -= nextPart();
            partsLeft--;
            due += 100;
        }

        void forgetDebts() {
            owed = 0;
            partsLeft = 0;
            yearsOut = 0;
            condition = NONE;
        }
    }

    /** An owner of earlier days. */
    private static final class Title {
        final int owner, since;
        final Title past;

        Title(int owner, int since, Title past) {
            this.owner = owner;
            this.since = since;
            this.past = past;
        }
    }

    private static final class Bid {
        final int bidder, sum;

        Bid(int bidder, int sum) {
            this.bidder = bidder;
            this.sum = sum;
        }
    }

    private static final class People {
        private final int[] purses = new int[MOST_PERSONS];
        int size;

        int add(int money) {
            if (size >= purses.length) {
                return FULL;
            }
            int number = size;
            purses[number] = money;
            size++;
            return number;
        }

        boolean has(int p) {
            return p >= 0 && p < size && p < purses.length;
        }

        int purse(int p) {
            return has(p) ? purses[p] : 0;
        }

        void fillPurse(int p, int money) {
            if (has(p)) {
                purses[p] = money;
            }
        }

        /** Takes the sum out of the purse, if it is there. */
        boolean pay(int p, int sum) {
            if (purse(p) < sum) {
                return false;
            }
            fillPurse(p, purse(p) - sum);
            return true;
        }
    }

    /** THE COMPANY's office: sales, titles, and what the end of a day brings. */
    private static final class Office {
        // Each of an object's 512 calls makes one new owner at the most, who loses the lot once
        // at the most: what comes behind so many changes comes behind the last promised call.
        private static final int MOST_KEPT_TITLES = 1024;
        private static final int PART_DAYS = 100, GRACE_DAYS = 30;
        private static final int YEAR = 365, TAX_DAY = 364, YEARS_TO_LOSE = 2;

        final Plat plat = new Plat();
        final People people = new People();
        int now;
        int taxRate;
        int forfeits;
        int takenForTaxes;
        int income;
        int taxesPaid;
        int changes;

        /** To a person debts go with the lot; what goes back (NONE) is free of them. */
        void changeTitle(Lot lot, int owner) {
            if (owner == NONE) {
                lot.forgetDebts();
            }
            if (changes < MOST_KEPT_TITLES) {
                lot.keepTitle();
            }
            lot.passTo(owner, now);
            changes++;
        }

        int sell(Lot lot) {
            Bid best = bestBid(lot);
            lot.bids.clear();
            if (best == null) {
                return NONE;
            }
            int quarter = best.sum / 4;
            people.pay(best.bidder, quarter);
            income += quarter;
            lot.owe(best.sum - quarter, now + PART_DAYS);
            changeTitle(lot, best.bidder);
            return best.bidder;
        }

        /** The greatest bid whose quarter can be paid, of like ones the first told. */
        private Bid bestBid(Lot lot) {
            Bid best = null;
            for (int i = 0; i < lot.bids.size(); i++) {
                Bid bid = lot.bids.get(i);
                boolean canPay = people.purse(bid.bidder) >= bid.sum / 4;
                if (canPay && (best == null || bid.sum > best.sum)) {
                    best = bid;
                }
            }
            return best;
        }

        void endDay() {
            collectParts();
            if (now % YEAR == TAX_DAY) {
                collectTaxes();
                settleComers();
            }
            judgeConditions();
            now++;
        }

        private void collectParts() {
            for (int l = 0; l < plat.lots.size(); l++) {
                Lot lot = plat.lots.get(l);
                if (lot.partsLeft > 0 && lot.due <= now) {
                    collectPart(lot);
                }
            }
        }

        private void collectPart(Lot lot) {
            int sum = lot.nextPart();
            if (people.pay(lot.owner, sum)) {
                income += sum;
                lot.tickOffPart();
            } else if (now >= lot.due + GRACE_DAYS) {
                forfeits++;
                changeTitle(lot, NONE);
            }
        }

        private void collectTaxes() {
            for (int l = 0; l < plat.lots.size(); l++) {
                Lot lot = plat.lots.get(l);
                if (lot.owner != NONE) {
                    collectTax(lot);
                }
            }
        }

        private void collectTax(Lot lot) {
            int tax = taxRate * plat.worthOf(lot) / 100;
            if (people.pay(lot.owner, tax)) {
                taxesPaid += tax;
                lot.yearsOut = 0;
                return;
            }
            lot.yearsOut++;
            if (lot.yearsOut >= YEARS_TO_LOSE) {
                takenForTaxes++;
                changeTitle(lot, NONE);
            }
        }

        private void settleComers() {
            for (int p = 0; p < people.size; p++) {
                if (plat.homeOf(p) == NONE) {
                    Lot best = plat.bestOf(p);
                    if (best != null) {
                        best.lived = true;
                    }
                }
            }
        }

        private void judgeConditions() {
            for (int l = 0; l < plat.lots.size(); l++) {
                Lot lot = plat.lots.get(l);
                if (lot.condition == now) {
                    lot.condition = NONE;
                    if (lot.owner != NONE && !lot.lived) {
                        changeTitle(lot, NONE);
                    }
                }
            }
        }

        int votesFor(int sum, int living) {
            if (living <= 0) {
                return 0;
            }
            int share = sum / living;
            int yes = 0;
            for (int l = 0; l < plat.lots.size(); l++) {
                Lot lot = plat.lots.get(l);
                if (lot.lived && share <= people.purse(lot.owner) / 10) {
                    yes++;
                }
            }
            return yes;
        }
    }
}
