/** Promises 33 (keep) and 34 (back). */
public final class KeptTest {
    private static final Due due = new Due("KeptTest");

    public static void main(String[] args) {
        nothingKept();
        allButTheTape();
        keptStays();
        due.end();
    }

    private static void nothingKept() {
        EmptyBoxes x = new EmptyBoxes();
        x.days(5);
        due.is("34: nothing kept", x.back(), EmptyBoxes.NONE);
        due.is("34: nothing changed", x.many(8), 5);
    }

    private static void fill(EmptyBoxes x, int seed) {
        Due.read(x, seed % 3, "free 1;day " + (seed + 2) + ";room 1 1;lost 50;");
        for (int i = 0; i < 5; i++) {
            x.box(100 * seed + i, i % 3, i % 4, i == 3 ? -1 : seed % 3);
        }
        x.days(1 + seed);
        int first = x.many(0) - 5;
        x.word(first, 0, 1, 0);
        x.word(first + 1, 0, 2, 1);
        x.word(first + 2, 1, 1, 0);
        x.giveBack(first, 3);
        x.writeOff(first + 4);
        x.week(seed % 6, 0, 0, 4);
        x.week((seed + 1) % 6, 2, 1, 9);
        x.route(seed % 6, (seed + 1) % 6, 1, 300 + seed);
        x.lack(200 + seed);
        x.turn(false, 1, 0, 0, seed, 20);
        x.turn(true, 1, 1, 0, 3, 30);
        x.leave(0, 1, true);
        x.rate(0, 10 + seed);
        x.rate(1, 1);
        x.use(first, 1, 0, 1 + seed);
        x.use(first + 1, 3, 0, seed);
        x.strike(x.many(6) - 1);
    }

    private static void allButTheTape() {
        EmptyBoxes x = new EmptyBoxes();
        fill(x, 1);
        due.is("33: keep", x.keep(), 1);
        String kept = Due.picture(x);
        fill(x, 2);
        x.leave(0, 1, false);
        x.clear();
        x.feed(0x2020, 2);
        due.is("34: back", x.back(), 1);
        due.is("34: the tape isn't kept", x.many(7), 2);
        x.read(3);
        due.is("34: all that was kept", Due.picture(x), kept);
        due.is("34: lack", x.lack(0), 201);
        due.is("34: rate", x.rate(0, 0), 11);
        due.is("34: free", x.rate(1, 0), 1);
        due.is("34: stock", x.week(1, 0, 0, 0), 4);
        due.is("34: need", x.week(2, 2, 1, 0), 9);
        due.is("34: leave", x.leave(1, 0, true), 0);
        // With the tape fed ahead of keep(): it is neither kept nor taken away.
        x.feed(0x2020, 2);
        x.keep();
        due.is("33: the tape stays", x.many(7), 2);
        x.read(3);
        x.back();
        due.is("34: the tape doesn't come back", x.many(7), 0);
    }

    private static void keptStays() {
        EmptyBoxes x = new EmptyBoxes();
        x.days(1);
        x.keep();
        x.days(1);
        x.back();
        x.days(7);
        due.is("34: back again", x.back(), 1);
        due.is("34: the same", x.many(8), 1);
        // What was kept must not change with what comes behind.
        x.box(5, 0, 0, -1);
        x.back();
        due.is("34: no box", x.many(0), 0);
        due.is("34: number 0 again", x.box(6, 1, 1, -1), 0);
        due.is("34: its mark", x.of(0, 0), 6);
        x.keep();
        x.box(7, 0, 0, -1);
        x.keep();
        x.box(8, 0, 0, -1);
        x.back();
        due.is("34: the latest one", x.many(0), 2);
        due.is("34: find", x.find(70 + x.check(7)), 1);
        due.is("34: least is reckoned anew", leastBehindBack(), 0);
    }

    private static int leastBehindBack() {
        EmptyBoxes x = new EmptyBoxes();
        x.keep();
        x.week(0, 0, 1, 3);
        due.is("34: least ahead of back", x.least(), 300);
        x.back();
        return x.least();
    }
}
