import java.util.Arrays;

/** THE MATCH by looking at every one there is; what SUITS is asked of the object. */
final class PlainMatch {
    private final boolean[][] suits;
    private final int[] firstDays;
    private final int offers;
    private final int wants;
    private int[] best;

    private PlainMatch(boolean[][] suits, int[] firstDays, int offers, int wants) {
        this.suits = suits;
        this.firstDays = firstDays;
        this.offers = offers;
        this.wants = wants;
    }

    /** Pairs, gap, then the want of each offer; the first days are of offers 0 to 6, then of wants. */
    static int[] best(EmptyBoxes x, int offers, int wants, int[] firstDays) {
        boolean[][] suits = new boolean[offers][wants];
        for (int offer = 0; offer < offers; offer++) {
            for (int want = 0; want < wants; want++) {
                suits[offer][want] = x.suits(offer, want) == 1;
            }
        }
        return best(suits, offers, wants, firstDays);
    }

    static int[] best(boolean[][] suits, int offers, int wants, int[] firstDays) {
        PlainMatch all = new PlainMatch(suits, firstDays, offers, wants);
        int[] none = new int[2 + offers];
        Arrays.fill(none, 2, none.length, EmptyBoxes.NONE);
        all.best = none.clone();
        all.look(0, new boolean[wants], none);
        return all.best;
    }

    private void look(int offer, boolean[] gone, int[] now) {
        if (offer == offers) {
            if (isBetter(now)) {
                best = now.clone();
            }
            return;
        }
        look(offer + 1, gone, now);
        for (int want = 0; want < wants; want++) {
            if (!gone[want] && suits[offer][want]) {
                int gap = Math.abs(firstDays[offer] - firstDays[7 + want]);
                gone[want] = true;
                now[0]++;
                now[1] += gap;
                now[2 + offer] = want;
                look(offer + 1, gone, now);
                now[2 + offer] = EmptyBoxes.NONE;
                now[1] -= gap;
                now[0]--;
                gone[want] = false;
            }
        }
    }

    private boolean isBetter(int[] now) {
        if (now[0] != best[0]) {
            return now[0] > best[0];
        }
        if (now[1] != best[1]) {
            return now[1] < best[1];
        }
        for (int i = 2; i < now.length; i++) {
            if (now[i] != best[i]) {
                return now[i] >= 0 && (best[i] < 0 || now[i] < best[i]);
            }
        }
        return false;
    }
}
