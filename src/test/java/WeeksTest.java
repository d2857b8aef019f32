/** Promises 12 (week) to 16 (worth). */
public final class WeeksTest {
    private static final Due due = new Due("WeeksTest");
    private static final int NUMBER = EmptyBoxes.NUMBER;
    private static final int FULL = EmptyBoxes.FULL;

    public static void main(String[] args) {
        week();
        route();
        lack();
        leastPlain();
        leastOverSeveral();
        worth();
        againstCycles();
        due.end();
    }

    private static void week() {
        EmptyBoxes x = new EmptyBoxes();
        x.week(0, 0, 1, 2);
        String before = Due.picture(x);
        int[][] wrong = {{-1, 0, 0, 0}, {6, 0, 0, 0}, {0, -1, 0, 0}, {0, 5, 0, 0}, {0, 0, -1, 0},
            {0, 0, 2, 0}, {0, 0, 0, -1}, {0, 0, 0, 10}};
        for (int[] row : wrong) {
            due.is("12: wrong", x.week(row[0], row[1], row[2], row[3]), NUMBER);
        }
        due.is("12: nothing changed", Due.picture(x), before);
        due.is("12: stock was", x.week(0, 0, 0, 9), 0);
        due.is("12: need was", x.week(0, 0, 1, 5), 2);
        due.is("12: stock was", x.week(0, 0, 0, 1), 9);
        due.is("12: need was", x.week(0, 0, 1, 0), 5);
        EmptyBoxes y = new EmptyBoxes();
        for (int i = 0; i < 60; i++) {
            y.week(i % 6, i / 6 % 5, i / 30, 1 + i % 7);
        }
        for (int i = 0; i < 60; i++) {
            due.is("12: each its own", y.week(i % 6, i / 6 % 5, i / 30, 0), 1 + i % 7);
        }
    }

    private static void route() {
        EmptyBoxes x = new EmptyBoxes();
        int[][] wrong = {{-1, 0, 0, 0}, {6, 0, 0, 0}, {0, -1, 0, 0}, {0, 6, 0, 0}, {2, 2, 0, 0},
            {0, 1, -1, 0}, {0, 1, 3, 0}, {0, 1, 0, -1}, {0, 1, 0, 1000}};
        for (int[] row : wrong) {
            due.is("13: wrong", x.route(row[0], row[1], row[2], row[3]), NUMBER);
        }
        due.is("13: none yet", x.many(2), 0);
        for (int i = 0; i < 10; i++) {
            due.is("13: number", x.route(0, 1 + i % 5, i % 3, 999), i);
        }
        due.is("13: FULL", x.route(0, 1, 0, 0), FULL);
        due.is("13: NUMBER ahead of FULL", x.route(0, 0, 0, 0), NUMBER);
        due.is("13: many", x.many(2), 10);
    }

    private static void lack() {
        EmptyBoxes x = new EmptyBoxes();
        x.week(3, 3, 1, 2);
        due.is("14: -1", x.lack(-1), NUMBER);
        due.is("14: 501", x.lack(501), NUMBER);
        due.is("14: least", x.least(), 200);
        due.is("14: was", x.lack(500), 100);
        due.is("14: least", x.least(), 1000);
        due.is("14: was", x.lack(0), 500);
        due.is("14: least", x.least(), 0);
        due.is("14: was", x.lack(3), 0);
    }

    private static void leastPlain() {
        EmptyBoxes x = new EmptyBoxes();
        x.week(0, 0, 0, 5);
        x.week(0, 2, 1, 3);
        due.is("15: stays for nothing", x.least(), 0);
        x.week(0, 3, 1, 9);
        due.is("15: used is gone", x.least(), 700);
        x.week(0, 1, 1, 9);
        due.is("15: no box goes back in time", x.least(), 1600);
        EmptyBoxes y = new EmptyBoxes();
        y.week(0, 0, 0, 9);
        y.week(1, 4, 1, 9);
        y.route(0, 1, 2, 110);
        due.is("15: room each week, arriving by week 4", y.least(), 3 * 10 + 6 * 100);
        y.route(0, 1, 0, 120);
        due.is("15: five more leave", y.least(), 3 * 10 + 5 * 20 + 100);
        y.route(0, 1, 0, 99);
        due.is("15: no room", y.least(), 230);
        y.lack(15);
        due.is("15: dearer than lack", y.least(), 3 * 10 + 6 * 15);
        EmptyBoxes z = new EmptyBoxes();
        z.week(0, 3, 0, 1);
        z.week(1, 4, 1, 1);
        z.route(0, 1, 2, 900);
        due.is("15: would arrive behind week 4", z.least(), 100);
        z.route(0, 1, 1, 900);
        due.is("15: arrives in week 4", z.least(), 0);
    }

    private static void leastOverSeveral() {
        EmptyBoxes x = new EmptyBoxes();
        x.week(0, 0, 0, 9);
        x.week(3, 0, 1, 9);
        x.route(0, 1, 0, 901);
        x.route(1, 2, 0, 402);
        x.route(2, 3, 0, 903);
        due.is("15: over three in one week", x.least(), 4 * 6 + 5 * 100);
        x.route(1, 0, 0, 900);
        x.route(2, 1, 0, 900);
        due.is("15: circles are no harm", x.least(), 524);
        // Sent on the cheapest ways first, the box at 0 must be turned to let the other one through.
        EmptyBoxes y = new EmptyBoxes();
        y.week(0, 0, 0, 1);
        y.week(1, 0, 0, 1);
        y.week(2, 0, 1, 1);
        y.week(3, 0, 1, 1);
        y.route(0, 2, 0, 101);
        y.route(0, 3, 0, 150);
        y.route(1, 2, 0, 102);
        due.is("15: turned to another need", y.least(), 52);
    }

    private static void worth() {
        EmptyBoxes x = new EmptyBoxes();
        due.is("16: place -1", x.worth(-1, 0), NUMBER);
        due.is("16: place 6", x.worth(6, 0), NUMBER);
        due.is("16: week -1", x.worth(0, -1), NUMBER);
        due.is("16: week 5", x.worth(0, 5), NUMBER);
        due.is("16: nothing wanted", x.worth(0, 0), 0);
        x.week(0, 0, 0, 9);
        x.week(1, 1, 1, 2);
        x.route(0, 1, 1, 940);
        due.is("16: spares the move", x.worth(1, 1), 40);
        due.is("16: waits", x.worth(1, 0), 40);
        due.is("16: too late", x.worth(1, 2), 0);
        due.is("16: enough there", x.worth(0, 0), 0);
        x.week(0, 0, 0, 1);
        due.is("16: one lacks", x.worth(0, 0), 60);
        due.is("16: one lacks, there", x.worth(1, 1), 100);
        due.is("16: least stays", x.least(), 140);
        x.week(0, 0, 0, 9);
        x.week(1, 1, 1, 9);
        due.is("16: stock 9 and one more", x.worth(0, 0), 0);
        x.week(1, 2, 1, 1);
        due.is("16: a tenth leaves a week later", x.worth(0, 0), 60);
        due.is("16: needs to stay on", x.worth(1, 0), 100);
    }

    /** The least cost again, found another way: from no flow on, circles that spare are taken. */
    private static void againstCycles() {
        Dice dice = new Dice(20261117);
        for (int run = 0; run < 400 && due.allRight(); run++) {
            EmptyBoxes x = new EmptyBoxes();
            PlainWeeks plain = new PlainWeeks();
            int busy = 1 + dice.below(30);
            for (int i = 0; i < busy; i++) {
                int place = dice.below(6);
                int week = dice.below(5);
                int what = dice.below(2);
                int v = dice.below(10);
                x.week(place, week, what, v);
                plain.amounts[what][place][week] = v;
            }
            int routes = dice.below(11);
            int places = 2 + dice.below(5);
            for (int i = 0; i < routes; i++) {
                int from = dice.below(places);
                int to = (from + 1 + dice.below(places - 1)) % places;
                int weeks = dice.below(3);
                int cost = dice.below(10) * 100 + dice.below(dice.below(2) == 0 ? 100 : 5);
                x.route(from, to, weeks, cost);
                plain.routes.add(new int[] {from, to, weeks, cost % 100, cost / 100});
            }
            if (dice.below(2) == 0) {
                plain.lack = dice.below(501);
                x.lack(plain.lack);
            }
            int least = plain.least();
            due.is("15: run " + run, x.least(), least);
            for (int i = 0; i < 5; i++) {
                int place = dice.below(6);
                int week = dice.below(5);
                plain.amounts[0][place][week]++;
                due.is("16: run " + run, x.worth(place, week), least - plain.least());
                plain.amounts[0][place][week]--;
            }
        }
    }
}
