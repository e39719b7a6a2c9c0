import java.util.ArrayList;
import java.util.HashMap;
import java.util.HashSet;
import java.util.LinkedHashMap;
import java.util.List;
import java.util.Map;
import java.util.Set;
import java.util.TreeMap;
import java.util.TreeSet;
import java.util.regex.Matcher;
import java.util.regex.Pattern;

/** The document told a second time, with sets of cells and maps of days, to hold the class against. */
final class Model {
    private static final int NONE = -1;
    private static final Pattern ORDER_B = order("b", 5), ORDER_S = order("s", 4), ORDER_G = order("g", 4);
    private static final Map<String, int[][]> BOUNDS = Map.of(
            "b", new int[][] {{0, 19}, {0, 15}, {1, 9}, {1, 9}, {1, 9}},
            "s", new int[][] {{0, 19}, {0, 15}, {0, 1}, {1, 20}},
            "g", new int[][] {{0, 19}, {0, 15}, {1, 9}, {1, 9}});

    static final class Ground {
        final TreeSet<Integer> cells = new TreeSet<>();
        final boolean gift;
        int halves;
        final TreeMap<Integer, Integer> owners = new TreeMap<>();
        final Map<Integer, Integer> bids = new LinkedHashMap<>();
        final List<int[]> parts = new ArrayList<>();
        int out;
        int condition = NONE;

        Ground(boolean gift) {
            this.gift = gift;
        }

        int owner() {
            return owners.isEmpty() ? NONE : owners.lastEntry().getValue();
        }

        int owed() {
            return parts.stream().mapToInt(part -> part[1]).sum();
        }
    }

    private StringBuilder text = new StringBuilder();
    private int place = NONE;
    private List<Ground> lots = new ArrayList<>();
    private List<Set<Integer>> streets = new ArrayList<>();
    private final Set<Integer> vacated = new HashSet<>();
    private final List<Integer> purses = new ArrayList<>();
    private final Map<Integer, Integer> homes = new HashMap<>();
    private int now, halt, rate, forfeit, taken, got, taxes, changes;

    private static Pattern order(String letter, int numbers) {
        return Pattern.compile(letter + " *[0-9]+" + " +[0-9]+".repeat(numbers - 1));
    }

    int feed(int n, long bytes) {
        if (n < 1 || n > 8) {
            return PaperTown.OUTSIDE;
        }
        if (text.length() + n > 200) {
            return PaperTown.FULL;
        }
        for (int i = n; i > 0; i--) {
            text.append((char) (bytes >>> 8 * (i - 1) & 255));
        }
        return text.length();
    }

    int draw() {
        String all = text.toString();
        text = new StringBuilder();
        List<Ground> oldLots = new ArrayList<>(lots);
        List<Set<Integer>> oldStreets = new ArrayList<>(streets);
        place = NONE;
        int at = 0;
        while (true) {
            int behind = at;
            while (at < all.length() && all.charAt(at) == ' ') {
                at++;
            }
            if (at == all.length()) {
                return lots.size();
            }
            int fault = at > 0 && behind == at ? 1 : drawOrder(all, at);
            if (fault != 0) {
                place = place == NONE ? at : place;
                lots = oldLots;
                streets = oldStreets;
                return -10 - fault;
            }
            at = orderEnd(all, at);
        }
    }

    private static Pattern patternOf(String letter) {
        return letter.equals("b") ? ORDER_B : letter.equals("s") ? ORDER_S : ORDER_G;
    }

    private static int orderEnd(String all, int at) {
        Matcher m = patternOf(all.substring(at, at + 1)).matcher(all).region(at, all.length());
        return m.lookingAt() ? m.end() : NONE;
    }

    private int drawOrder(String all, int at) {
        String letter = all.substring(at, at + 1);
        if (!BOUNDS.containsKey(letter)) {
            return 1;
        }
        int[][] bounds = BOUNDS.get(letter);
        int[] v = new int[bounds.length];
        Matcher m = Pattern.compile("[0-9]+").matcher(all);
        int i = at + 1;
        for (int k = 0; k < v.length; k++) {
            int gap = i;
            while (i < all.length() && all.charAt(i) == ' ') {
                i++;
            }
            m.region(i, all.length());
            if (k > 0 && gap == i || !m.lookingAt()) {
                place = i;
                return 1;
            }
            v[k] = m.group().length() > 2 ? NONE : Integer.parseInt(m.group());
            if (v[k] < bounds[k][0] || v[k] > bounds[k][1]) {
                place = i;
                return 2;
            }
            i = m.end();
        }
        return letter.equals("s") ? drawStreet(v) : drawLots(v, letter.equals("g"));
    }

    private int drawLots(int[] v, boolean gift) {
        int n = gift ? 1 : v[4];
        if (v[0] + v[2] * n > 20 || v[1] + v[3] > 16) {
            return 3;
        }
        List<Ground> fresh = new ArrayList<>();
        for (int k = 0; k < n; k++) {
            Ground lot = new Ground(gift);
            for (int c = 0; c < v[2] * v[3]; c++) {
                lot.cells.add(20 * (v[1] + c / v[2]) + v[0] + k * v[2] + c % v[2]);
            }
            fresh.add(lot);
        }
        for (Ground lot : fresh) {
            for (int c : lot.cells) {
                if (lotOf(c) != NONE || streetOf(c) != NONE) {
                    return 3;
                }
            }
        }
        if (lots.size() + n > 40) {
            return 4;
        }
        lots.addAll(fresh);
        return 0;
    }

    private int drawStreet(int[] v) {
        Set<Integer> cells = new TreeSet<>();
        for (int k = 0; k < v[3]; k++) {
            int x = v[0] + (v[2] == 0 ? k : 0);
            int y = v[1] + (v[2] == 1 ? k : 0);
            if (x > 19 || y > 15 || lotOf(20 * y + x) != NONE) {
                return 3;
            }
            if (streetOf(20 * y + x) == NONE) {
                cells.add(20 * y + x);
            }
        }
        if (streets.size() == 12) {
            return 4;
        }
        streets.add(cells);
        return 0;
    }

    private int lotOf(int cell) {
        for (int l = 0; l < lots.size(); l++) {
            if (lots.get(l).cells.contains(cell)) {
                return l;
            }
        }
        return NONE;
    }

    private int streetOf(int cell) {
        for (int s = 0; s < streets.size(); s++) {
            if (streets.get(s).contains(cell)) {
                return s;
            }
        }
        return NONE;
    }

    private static List<Integer> around(int cell) {
        List<Integer> cells = new ArrayList<>();
        if (cell % 20 > 0) {
            cells.add(cell - 1);
        }
        if (cell % 20 < 19) {
            cells.add(cell + 1);
        }
        if (cell >= 20) {
            cells.add(cell - 20);
        }
        if (cell < 300) {
            cells.add(cell + 20);
        }
        return cells;
    }

    int place() {
        return place;
    }

    int cell(int x, int y) {
        if (x < 0 || x > 19 || y < 0 || y > 15) {
            return PaperTown.OUTSIDE;
        }
        int s = streetOf(20 * y + x);
        return s == NONE ? lotOf(20 * y + x) : s + (vacated.contains(s) ? 200 : 100);
    }

    private boolean noLot(int l) {
        return l < 0 || l >= lots.size();
    }

    private boolean noPerson(int p) {
        return p < 0 || p >= purses.size();
    }

    int lot(int l, int what) {
        if (noLot(l)) {
            return PaperTown.UNKNOWN;
        }
        Ground lot = lots.get(l);
        return switch (what) {
            case 0 -> area(lot);
            case 1 -> lot.owner();
            case 2 -> lot.gift ? 1 : 0;
            case 3 -> worth(lot);
            case 4 -> dweller(l);
            case 5 -> lot.owed();
            case 6 -> lot.parts.isEmpty() ? NONE : lot.parts.get(0)[0];
            case 7 -> lot.out;
            case 8 -> lot.cells.first();
            case 9 -> lot.owners.isEmpty() ? NONE : lot.owners.lastKey();
            default -> PaperTown.OUTSIDE;
        };
    }

    private int area(Ground lot) {
        return 2 * lot.cells.size() + lot.halves;
    }

    private int dweller(int l) {
        for (int p = 0; p < purses.size(); p++) {
            if (homes.getOrDefault(p, NONE) == l) {
                return p;
            }
        }
        return NONE;
    }

    private int worth(Ground lot) {
        Set<Integer> neighbours = new HashSet<>();
        boolean street = false;
        for (int c : lot.cells) {
            for (int d : around(c)) {
                neighbours.add(lotOf(d));
                int s = streetOf(d);
                street |= s != NONE && !vacated.contains(s);
            }
        }
        neighbours.remove(lots.indexOf(lot));
        neighbours.remove(NONE);
        int first = lot.cells.first();
        int steps = Math.abs(first % 20 - halt % 20) + Math.abs(first / 20 - halt / 20);
        int sum = 10 * area(lot) + 200 / (1 + steps) + (street ? 30 : 0);
        for (int l : neighbours) {
            sum += dweller(l) == NONE ? 0 : 15;
        }
        return sum;
    }

    int vacate(int street) {
        if (street < 0 || street >= streets.size()) {
            return PaperTown.UNKNOWN;
        }
        if (!vacated.add(street)) {
            return PaperTown.NOT;
        }
        int went = 0;
        for (int c : streets.get(street)) {
            TreeSet<Integer> sides = new TreeSet<>();
            for (int d : around(c)) {
                sides.add(lotOf(d));
            }
            sides.remove(NONE);
            went += sides.isEmpty() ? 0 : 1;
            if (sides.size() == 1) {
                lots.get(sides.first()).halves += 2;
            } else if (sides.size() > 1) {
                lots.get(sides.pollFirst()).halves++;
                lots.get(sides.pollFirst()).halves++;
            }
        }
        return went;
    }

    int halt(int x, int y) {
        if (x < 0 || x > 19 || y < 0 || y > 15) {
            return PaperTown.OUTSIDE;
        }
        int before = halt;
        halt = 20 * y + x;
        return before;
    }

    int person(int money) {
        if (money < 0 || money > 1000000) {
            return PaperTown.OUTSIDE;
        }
        if (purses.size() == 20) {
            return PaperTown.FULL;
        }
        purses.add(money);
        return purses.size() - 1;
    }

    int money(int p, int v) {
        if (noPerson(p)) {
            return PaperTown.UNKNOWN;
        }
        long then = (long) purses.get(p) + v;
        if (v < -1000000 || v > 1000000 || then < 0 || then > 1000000) {
            return PaperTown.OUTSIDE;
        }
        purses.set(p, (int) then);
        return (int) then;
    }

    int bid(int l, int p, int sum) {
        if (noLot(l) || noPerson(p)) {
            return PaperTown.UNKNOWN;
        }
        if (sum < 1 || sum > 1000000) {
            return PaperTown.OUTSIDE;
        }
        Ground lot = lots.get(l);
        if (lot.gift || lot.owner() != NONE) {
            return PaperTown.NOT;
        }
        lot.bids.remove(p);
        lot.bids.put(p, sum);
        return lot.bids.size();
    }

    int close(int l) {
        if (noLot(l)) {
            return PaperTown.UNKNOWN;
        }
        Ground lot = lots.get(l);
        if (lot.bids.isEmpty()) {
            return PaperTown.NOT;
        }
        List<Map.Entry<Integer, Integer>> asked = new ArrayList<>(lot.bids.entrySet());
        asked.sort((a, b) -> b.getValue() - a.getValue());
        int buyer = NONE;
        for (Map.Entry<Integer, Integer> bid : asked) {
            int quarter = bid.getValue() / 4;
            if (buyer == NONE && purses.get(bid.getKey()) >= quarter) {
                buyer = bid.getKey();
                purses.set(buyer, purses.get(buyer) - quarter);
                got += quarter;
                int rest = bid.getValue() - quarter;
                lot.parts.add(new int[] {now + 100, rest / 3});
                lot.parts.add(new int[] {now + 200, rest / 3});
                lot.parts.add(new int[] {now + 300, rest - 2 * (rest / 3)});
                entitle(l, buyer);
            }
        }
        lot.bids.clear();
        return buyer;
    }

    private void entitle(int l, int p) {
        lots.get(l).owners.put(now, p);
        changes++;
        homes.values().removeIf(home -> home == l);
    }

    private void back(int l) {
        lots.get(l).parts.clear();
        lots.get(l).out = 0;
        lots.get(l).condition = NONE;
        entitle(l, NONE);
    }

    int pass(int l, int p) {
        if (noLot(l) || noPerson(p)) {
            return PaperTown.UNKNOWN;
        }
        int owner = lots.get(l).owner();
        if (owner == NONE || owner == p) {
            return PaperTown.NOT;
        }
        entitle(l, p);
        return 1;
    }

    int give(int l, int p, int day) {
        if (noLot(l) || noPerson(p)) {
            return PaperTown.UNKNOWN;
        }
        if (day < now || day > 9999) {
            return PaperTown.OUTSIDE;
        }
        if (!lots.get(l).gift || lots.get(l).owner() != NONE) {
            return PaperTown.NOT;
        }
        lots.get(l).condition = day;
        entitle(l, p);
        return 1;
    }

    int rate(int v) {
        if (v < 0 || v > 100) {
            return PaperTown.OUTSIDE;
        }
        int before = rate;
        rate = v;
        return before;
    }

    int days(int n) {
        if (n < 0 || n > 1000) {
            return PaperTown.OUTSIDE;
        }
        if (now + n > 9999) {
            return PaperTown.NOT;
        }
        for (int end = now + n; now < end; now++) {
            parts();
            if (now % 365 == 364) {
                years();
                comers();
            }
            conditions();
        }
        return now;
    }

    private void parts() {
        for (int l = 0; l < lots.size(); l++) {
            Ground lot = lots.get(l);
            if (lot.parts.isEmpty() || lot.parts.get(0)[0] > now) {
                continue;
            }
            int sum = lot.parts.get(0)[1];
            int money = purses.get(lot.owner());
            if (money >= sum) {
                purses.set(lot.owner(), money - sum);
                got += sum;
                lot.parts.remove(0);
            } else if (now - lot.parts.get(0)[0] == 30) {
                forfeit++;
                back(l);
            }
        }
    }

    private void years() {
        for (int l = 0; l < lots.size(); l++) {
            Ground lot = lots.get(l);
            if (lot.owner() == NONE) {
                continue;
            }
            int tax = rate * worth(lot) / 100;
            int money = purses.get(lot.owner());
            if (money >= tax) {
                purses.set(lot.owner(), money - tax);
                taxes += tax;
                lot.out = 0;
            } else if (++lot.out == 2) {
                taken++;
                back(l);
            }
        }
    }

    private void comers() {
        for (int p = 0; p < purses.size(); p++) {
            int best = NONE;
            for (int l = lots.size() - 1; l >= 0 && !homes.containsKey(p); l--) {
                if (lots.get(l).owner() == p && (best == NONE || worth(lots.get(l)) >= worth(lots.get(best)))) {
                    best = l;
                }
            }
            if (best != NONE) {
                homes.put(p, best);
            }
        }
    }

    private void conditions() {
        for (int l = 0; l < lots.size(); l++) {
            if (lots.get(l).condition == now) {
                lots.get(l).condition = NONE;
                if (dweller(l) == NONE) {
                    back(l);
                }
            }
        }
    }

    int title(int l, int day) {
        if (noLot(l)) {
            return PaperTown.UNKNOWN;
        }
        if (day < 0 || day > now) {
            return PaperTown.OUTSIDE;
        }
        Map.Entry<Integer, Integer> owner = lots.get(l).owners.floorEntry(day);
        return owner == null ? NONE : owner.getValue();
    }

    int told(int p, int what) {
        if (noPerson(p)) {
            return PaperTown.UNKNOWN;
        }
        return switch (what) {
            case 0 -> purses.get(p);
            case 1 -> (int) lots.stream().filter(lot -> lot.owner() == p).count();
            case 2 -> homes.getOrDefault(p, NONE);
            case 3 -> lots.stream().filter(lot -> lot.owner() == p).mapToInt(Ground::owed).sum();
            default -> PaperTown.OUTSIDE;
        };
    }

    int count(int what) {
        int[] counts = {lots.size(), streets.size(), purses.size(), now, homes.size(),
            (int) lots.stream().filter(lot -> lot.owner() == NONE).count(), forfeit, taken, got, taxes,
            text.length(), changes, lots.stream().mapToInt(this::area).sum(), halt};
        return what < 0 || what >= counts.length ? PaperTown.OUTSIDE : counts[what];
    }

    int bond(int sum, int what) {
        if (sum < 1 || sum > 1000000 || what < 0 || what > 1) {
            return PaperTown.OUTSIDE;
        }
        int all = homes.size();
        int yes = (int) homes.keySet().stream().filter(p -> 10 * (sum / all) <= purses.get(p)).count();
        return what == 0 ? yes : yes > all - yes ? 1 : 0;
    }
}
