import java.util.Arrays;

/** Promises 17 (turn) to 21 (clear). */
public final class TurnsTest {
    private static final Due due = new Due("TurnsTest");
    private static final int NUMBER = EmptyBoxes.NUMBER;
    private static final int FULL = EmptyBoxes.FULL;
    private static final int NONE = EmptyBoxes.NONE;

    public static void main(String[] args) {
        turn();
        leave();
        suits();
        match();
        matchAgainstAll();
        clear();
        due.end();
    }

    private static void turn() {
        EmptyBoxes x = new EmptyBoxes();
        int[][] wrong = {{-1, 0, 0, 0, 0}, {6, 0, 0, 0, 0}, {0, -1, 0, 0, 0}, {0, 4, 0, 0, 0},
            {0, 0, -1, 0, 0}, {0, 0, 3, 0, 0}, {0, 0, 0, -1, 0}, {0, 0, 0, 201, 201},
            {0, 0, 0, 0, -1}, {0, 0, 0, 0, 201}, {0, 0, 0, 5, 4}};
        for (int[] w : wrong) {
            due.is("17: wrong offer", x.turn(false, w[0], w[1], w[2], w[3], w[4]), NUMBER);
            due.is("17: wrong want", x.turn(true, w[0], w[1], w[2], w[3], w[4]), NUMBER);
        }
        due.is("17: no offers", x.many(3), 0);
        due.is("17: no wants", x.many(4), 0);
        for (int i = 0; i < 7; i++) {
            due.is("17: offer", x.turn(false, 5, 3, 2, 200, 200), i);
        }
        due.is("17: offers FULL", x.turn(false, 0, 0, 0, 0, 0), FULL);
        due.is("17: NUMBER ahead of FULL", x.turn(false, 6, 0, 0, 0, 0), NUMBER);
        for (int i = 0; i < 7; i++) {
            due.is("17: want", x.turn(true, 0, 0, 0, 0, 200), i);
        }
        due.is("17: wants FULL", x.turn(true, 0, 0, 0, 0, 0), FULL);
        due.is("17: offers", x.many(3), 7);
        due.is("17: wants", x.many(4), 7);
    }

    private static void leave() {
        EmptyBoxes x = new EmptyBoxes();
        due.is("18: line -1", x.leave(-1, 0, true), NUMBER);
        due.is("18: line 4", x.leave(4, 0, true), NUMBER);
        due.is("18: other -1", x.leave(0, -1, true), NUMBER);
        due.is("18: other 4", x.leave(0, 4, true), NUMBER);
        due.is("18: the same", x.leave(2, 2, true), NUMBER);
        due.is("18: none is not new", x.leave(2, 3, false), 0);
        due.is("18: new", x.leave(2, 3, true), 1);
        due.is("18: not new", x.leave(2, 3, true), 0);
        due.is("18: both ways", x.leave(3, 2, true), 0);
        due.is("18: others have none", x.leave(0, 3, false), 0);
        due.is("18: taken back", x.leave(3, 2, false), 1);
        due.is("18: taken back already", x.leave(2, 3, false), 0);
    }

    private static void suits() {
        EmptyBoxes x = new EmptyBoxes();
        due.is("19: none", x.suits(0, 0), NUMBER);
        x.turn(false, 0, 0, 0, 10, 20);
        due.is("19: no want", x.suits(0, 0), NUMBER);
        x.turn(true, 0, 0, 0, 20, 30);
        due.is("19: one day", x.suits(0, 0), 1);
        x.turn(true, 0, 0, 0, 21, 30);
        due.is("19: a day late", x.suits(0, 1), 0);
        x.turn(true, 0, 0, 0, 0, 10);
        due.is("19: one day ahead", x.suits(0, 2), 1);
        x.turn(true, 0, 0, 0, 0, 9);
        due.is("19: a day early", x.suits(0, 3), 0);
        x.turn(true, 0, 0, 1, 10, 20);
        due.is("19: another kind", x.suits(0, 4), 0);
        x.turn(true, 0, 2, 0, 10, 20);
        due.is("19: another line", x.suits(0, 5), 0);
        x.leave(2, 1, true);
        due.is("19: leave of others", x.suits(0, 5), 0);
        x.leave(2, 0, true);
        due.is("19: leave", x.suits(0, 5), 1);
        x.leave(0, 2, false);
        due.is("19: leave taken back", x.suits(0, 5), 0);
        x.turn(true, 3, 0, 0, 0, 200);
        due.is("19: another place", x.suits(0, 6), 0);
        x.route(0, 1, 0, 900);
        x.route(1, 3, 0, 900);
        due.is("19: over two routes", x.suits(0, 6), 0);
        x.route(3, 2, 0, 900);
        x.route(2, 0, 0, 900);
        due.is("19: routes that share but one end", x.suits(0, 6), 0);
        x.route(3, 0, 2, 0);
        due.is("19: a route the other way", x.suits(0, 6), 1);
        due.is("19: offer 1", x.suits(1, 0), NUMBER);
        due.is("19: offer -1", x.suits(-1, 0), NUMBER);
        due.is("19: want 7", x.suits(0, 7), NUMBER);
        due.is("19: want -1", x.suits(0, -1), NUMBER);
    }

    private static void match() {
        EmptyBoxes x = new EmptyBoxes();
        for (int what : new int[] {-1, 2, 9, 10, 17, Integer.MIN_VALUE, Integer.MAX_VALUE}) {
            due.is("20: match(" + what + ")", x.match(what), NUMBER);
        }
        // More pairs win over a lesser gap.
        x.turn(false, 0, 0, 0, 50, 100);
        x.turn(false, 0, 0, 0, 0, 50);
        x.turn(true, 0, 0, 0, 50, 50);
        x.turn(true, 0, 0, 0, 100, 100);
        due.is("20: pairs", x.match(0), 2);
        due.is("20: gap", x.match(1), 100);
        due.is("20: of offer 0", x.match(10), 1);
        due.is("20: of offer 1", x.match(11), 0);
        due.is("20: no offer 2", x.match(12), NUMBER);
        // All alike: the lesser wants, and none for the last offer.
        EmptyBoxes y = new EmptyBoxes();
        for (int i = 0; i < 3; i++) {
            y.turn(false, 0, 0, 0, 5, 5);
        }
        y.turn(true, 0, 0, 0, 5, 5);
        y.turn(true, 0, 0, 0, 5, 5);
        due.is("20: lesser first", y.match(10), 0);
        due.is("20: then the next", y.match(11), 1);
        due.is("20: none stands behind all", y.match(12), NONE);
        due.is("20: gap", y.match(1), 0);
    }

    private static void matchAgainstAll() {
        Dice dice = new Dice(7);
        for (int run = 0; run < 60 && due.allRight(); run++) {
            EmptyBoxes x = new EmptyBoxes();
            int kinds = 1 + dice.below(2);
            int spread = 1 + dice.below(30);
            int[] firstDays = new int[14];
            int offers = dice.below(8);
            int wants = dice.below(8);
            for (int i = 0; i < 14; i++) {
                firstDays[i] = dice.below(spread);
                if (i < 7 ? i < offers : i - 7 < wants) {
                    x.turn(i >= 7, dice.below(3), dice.below(2), dice.below(kinds), firstDays[i],
                            firstDays[i] + dice.below(spread));
                }
            }
            x.leave(0, 1, dice.below(2) == 0);
            x.route(0, 1 + dice.below(2), 0, 0);
            int[] best = PlainMatch.best(x, offers, wants, firstDays);
            due.is("20: pairs of run " + run, x.match(0), best[0]);
            due.is("20: gap of run " + run, x.match(1), best[1]);
            int[] given = new int[offers];
            for (int offer = 0; offer < offers; offer++) {
                given[offer] = x.match(10 + offer);
            }
            due.is("20: wants of run " + run, Arrays.toString(given),
                    Arrays.toString(Arrays.copyOfRange(best, 2, 2 + offers)));
        }
    }

    private static void clear() {
        EmptyBoxes x = new EmptyBoxes();
        due.is("21: none", x.clear(), 0);
        x.turn(false, 0, 0, 0, 0, 9);
        x.turn(false, 1, 0, 0, 0, 9);
        x.turn(true, 0, 1, 0, 0, 9);
        x.leave(0, 1, true);
        x.route(0, 1, 0, 0);
        due.is("21: three", x.clear(), 3);
        due.is("21: no offers", x.many(3), 0);
        due.is("21: no wants", x.many(4), 0);
        due.is("21: none again", x.clear(), 0);
        due.is("21: no pairs", x.match(0), 0);
        due.is("21: leave stays", x.leave(1, 0, true), 0);
        due.is("21: routes stay", x.many(2), 1);
        due.is("21: numbers begin anew", x.turn(true, 2, 2, 2, 3, 3), 0);
        due.is("21: numbers begin anew", x.turn(false, 2, 2, 2, 3, 3), 0);
        due.is("21: the new ones", x.suits(0, 0), 1);
    }
}
