/** Promises 27 (rate) to 32 (many). */
public final class PoolTest {
    private static final Due due = new Due("PoolTest");
    private static final int NUMBER = EmptyBoxes.NUMBER;
    private static final int FULL = EmptyBoxes.FULL;
    private static final int STATE = EmptyBoxes.STATE;

    public static void main(String[] args) {
        rate();
        use();
        strike();
        netAndOwes();
        many();
        due.end();
    }

    private static void rate() {
        EmptyBoxes x = new EmptyBoxes();
        due.is("27: rate -1", x.rate(0, -1), NUMBER);
        due.is("27: rate 51", x.rate(0, 51), NUMBER);
        due.is("27: free -1", x.rate(1, -1), NUMBER);
        due.is("27: free 11", x.rate(1, 11), NUMBER);
        due.is("27: what 2", x.rate(2, 0), NUMBER);
        due.is("27: what -1", x.rate(-1, 0), NUMBER);
        due.is("27: rate was", x.rate(0, 50), 5);
        due.is("27: rate was", x.rate(0, 0), 50);
        due.is("27: free was", x.rate(1, 10), 2);
        due.is("27: free was", x.rate(1, 0), 10);
        due.is("27: rate was", x.rate(0, 7), 0);
        due.is("27: free was", x.rate(1, 3), 0);
    }

    private static void use() {
        EmptyBoxes x = new EmptyBoxes();
        due.is("28: no box", x.use(0, 1, 0, 0), NUMBER);
        x.box(1, 0, 2, -1);
        x.days(5);
        String before = Due.picture(x);
        int[][] wrong = {{-1, 1, 0, 0}, {1, 1, 0, 0}, {0, -1, 0, 0}, {0, 4, 0, 0}, {0, 1, -1, 0},
            {0, 1, 6, 6}, {0, 1, 0, 6}, {0, 1, 0, -1}, {0, 1, 3, 2}, {0, 2, 3, 2}};
        for (int[] row : wrong) {
            due.is("28: wrong", x.use(row[0], row[1], row[2], row[3]), NUMBER);
        }
        due.is("28: its own", x.use(0, 2, 0, 0), STATE);
        due.is("28: nothing changed", Due.picture(x), before);
        for (int i = 0; i < 40; i++) {
            due.is("28: number", x.use(0, i % 2, i % 6, 5), i);
        }
        due.is("28: FULL", x.use(0, 0, 0, 0), FULL);
        due.is("28: STATE ahead of FULL", x.use(0, 2, 0, 0), STATE);
        due.is("28: NUMBER ahead of STATE", x.use(0, 2, 0, 6), NUMBER);
        x.strike(0);
        due.is("28: a struck one still counts", x.use(0, 0, 0, 0), FULL);
        due.is("28: many", x.many(6), 40);
        // A box that is given back may still be told of.
        EmptyBoxes y = new EmptyBoxes();
        y.read(0);
        y.box(1, 0, 0, 0);
        y.writeOff(0);
        due.is("28: written off", y.use(0, 1, 0, 0), 0);
    }

    private static void strike() {
        EmptyBoxes x = new EmptyBoxes();
        due.is("29: none", x.strike(0), NUMBER);
        x.box(1, 0, 0, -1);
        x.days(9);
        x.use(0, 1, 0, 9);
        x.use(0, 2, 0, 1);
        x.use(0, 3, 4, 6);
        due.is("29: -1", x.strike(-1), NUMBER);
        due.is("29: 3", x.strike(3), NUMBER);
        due.is("29: ten days, two free", x.strike(0), 40);
        due.is("29: again", x.strike(0), STATE);
        due.is("29: two days, two free", x.strike(1), 0);
        due.is("29: again, worth nothing", x.strike(1), STATE);
        x.rate(0, 50);
        x.rate(1, 0);
        due.is("29: by the rate of now", x.strike(2), 150);
    }

    private static void netAndOwes() {
        EmptyBoxes x = new EmptyBoxes();
        x.box(1, 0, 0, -1);
        x.box(2, 0, 1, -1);
        x.days(10);
        x.use(0, 1, 1, 10);
        x.use(1, 0, 5, 10);
        x.use(1, 2, 10, 10);
        x.days(5);
        x.use(0, 3, 15, 15);
        x.use(0, 3, 11, 15);
        due.is("31: 1 owes 0", x.owes(1, 0, 10), 40);
        due.is("31: 0 owes 1, not netted", x.owes(0, 1, 10), 20);
        due.is("31: one day is free", x.owes(2, 1, 15), 0);
        due.is("31: 3 owes 0", x.owes(3, 0, 15), 15);
        due.is("31: not known yet", x.owes(3, 0, 14), 0);
        due.is("31: itself", x.owes(0, 0, 15), 0);
        due.is("30: net 0", x.net(0, 15), 1000000 + 40 - 20 + 15);
        due.is("30: net 1", x.net(1, 15), 1000000 - 40 + 20);
        due.is("30: net 2", x.net(2, 15), 1000000);
        due.is("30: net 3", x.net(3, 15), 1000000 - 15);
        due.is("30: net 0 on 14", x.net(0, 14), 1000020);
        due.is("30: net 0 on 9", x.net(0, 9), 1000000);
        x.rate(1, 0);
        due.is("31: the rate of now", x.owes(2, 1, 15), 5);
        x.days(1);
        x.strike(0);
        due.is("31: struck on 16", x.owes(1, 0, 16), 0);
        due.is("31: not on 15", x.owes(1, 0, 15), 50);
        due.is("30: struck on 16", x.net(1, 16), 1000000 + 30 + 5);
        x.use(0, 2, 0, 16);
        x.strike(5);
        due.is("31: struck on its day", x.owes(2, 0, 16), 0);
        x.use(0, 2, 0, 16);
        due.is("31: told again", x.owes(2, 0, 16), 85);
        int[][] wrong = {{-1, 0, 0}, {4, 0, 0}, {0, -1, 0}, {0, 4, 0}, {0, 1, -1}, {0, 1, 17}};
        for (int[] row : wrong) {
            due.is("31: wrong", x.owes(row[0], row[1], row[2]), NUMBER);
        }
        due.is("30: line -1", x.net(-1, 0), NUMBER);
        due.is("30: line 4", x.net(4, 0), NUMBER);
        due.is("30: k -1", x.net(0, -1), NUMBER);
        due.is("30: k 17", x.net(0, 17), NUMBER);
        int sum = 0;
        for (int line = 0; line < 4; line++) {
            sum += x.net(line, 16);
        }
        due.is("30: nets to nought", sum, 4000000);
    }

    private static void many() {
        EmptyBoxes x = new EmptyBoxes();
        x.read(0);
        x.read(2);
        x.read(2);
        for (int mark = 0; mark < 7; mark++) {
            x.box(mark, 0, 0, mark < 4 ? 0 : -1);
        }
        x.days(8);
        for (int word = 0; word < 6; word++) {
            x.word(0, word, 0, 0);
        }
        for (int route = 0; route < 5; route++) {
            x.route(route, 5, 0, 0);
        }
        for (int turn = 0; turn < 4; turn++) {
            x.turn(false, 0, 0, 0, 0, 0);
        }
        for (int turn = 0; turn < 3; turn++) {
            x.turn(true, 0, 0, 0, 0, 0);
        }
        for (int use = 0; use < 9; use++) {
            x.use(0, 1, 0, 0);
        }
        Due.read(x, 0, "day 1;");
        x.feed(0, 5);
        x.giveBack(0, 0);
        x.writeOff(1);
        x.writeOff(2);
        int[] all = {7, 6, 5, 4, 3, 2, 9, 5, 8, 1, 2, 27};
        for (int what = 0; what <= 11; what++) {
            due.is("32: many(" + what + ")", x.many(what), all[what]);
        }
        due.is("32: many(12)", x.many(12), NUMBER);
        due.is("32: many(-1)", x.many(-1), NUMBER);
        due.is("32: many(max)", x.many(Integer.MAX_VALUE), NUMBER);
        due.is("32: many(min)", x.many(Integer.MIN_VALUE), NUMBER);
    }
}
