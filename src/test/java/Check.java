/** Counts the answers that are not as due; feeds whole texts. */
final class Check {
    private int wrong;
    private int asked;

    void due(String call, long got, long want) {
        asked++;
        if (got != want) {
            wrong++;
            System.out.println(call + " answered " + got + ", due is " + want);
        }
    }

    void end() {
        System.out.println(asked + " answers, " + wrong + " not as due");
        if (wrong != 0 || asked == 0) {
            System.exit(1);
        }
    }

    /** Feeds a text byte by byte in words of eight. */
    static void type(PaperTown town, String text) {
        for (int i = 0; i < text.length(); i += 8) {
            int n = Math.min(8, text.length() - i);
            long word = 0;
            for (int k = 0; k < n; k++) {
                word = word << 8 | text.charAt(i + k) & 255;
            }
            town.feed(n, word);
        }
    }

    static PaperTown town(String text) {
        PaperTown town = new PaperTown();
        type(town, text);
        town.draw();
        return town;
    }

    /** Ends days till it is that one. */
    static void until(PaperTown town, int day) {
        for (int now = town.count(3); now < day; now = town.count(3)) {
            town.days(Math.min(1000, day - now));
        }
    }

    /** A person buys a lot as the only one who bids. */
    static void buy(PaperTown town, int lot, int p, int sum) {
        town.bid(lot, p, sum);
        town.close(lot);
    }

    /** Calls that make a town what it is; told again, they make such a town again. */
    interface Story {
        void tell(PaperTown town);
    }

    static PaperTown toldTown(Story... chapters) {
        PaperTown town = new PaperTown();
        for (Story chapter : chapters) {
            chapter.tell(town);
        }
        return town;
    }

    /**
     * All that can be asked of a town without changing it. Each part is asked of a town of its own:
     * what an object answers behind its 512th call is free.
     */
    static String state(Story... chapters) {
        StringBuilder s = new StringBuilder();
        PaperTown town = toldTown(chapters);
        for (int what = 0; what <= 13; what++) {
            s.append(town.count(what)).append(' ');
        }
        s.append(town.place()).append('\n');
        int lots = town.count(0);
        for (int p = 0; p < town.count(2); p++) {
            for (int what = 0; what <= 3; what++) {
                s.append(town.told(p, what)).append(' ');
            }
        }
        stateOfCells(s, toldTown(chapters));
        for (int l = 0; l < lots; l += 20) {
            stateOfLots(s, toldTown(chapters), l, Math.min(lots, l + 20));
        }
        return s.toString();
    }

    private static void stateOfCells(StringBuilder s, PaperTown town) {
        for (int c = 0; c < 320; c++) {
            s.append(town.cell(c % 20, c / 20)).append(c % 20 == 19 ? '\n' : ' ');
        }
    }

    private static void stateOfLots(StringBuilder s, PaperTown town, int from, int to) {
        int now = town.count(3);
        for (int l = from; l < to; l++) {
            for (int what = 0; what <= 9; what++) {
                s.append(town.lot(l, what)).append(' ');
            }
            for (int day : new int[] {0, now / 4, now / 2, now - 1, now}) {
                s.append(town.title(l, day)).append(' ');
            }
            s.append('\n');
        }
    }
}
