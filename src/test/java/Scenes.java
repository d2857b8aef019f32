import java.util.function.Consumer;
import java.util.function.Supplier;

/** Objects in states that tests begin from, and all that can be asked behind a call. */
final class Scenes {
    static final int BUSY_DAY = 30;
    static final int BUSY_BOXES = 7;
    static final int BUSY_USES = 3;
    static final String BUSY_TAPE = "day 7;drop 1 3;";

    static final Supplier<EmptyBoxes> NEW = EmptyBoxes::new;
    /** Something of everything; what is kept is unlike it. */
    static final Supplier<EmptyBoxes> BUSY = made(x -> {
        fillBusy(x);
        Due.feed(x, BUSY_TAPE);
    });
    static final Supplier<EmptyBoxes> BUSY_WITHOUT_TAPE = made(Scenes::fillBusy);
    /** As many of everything as may be, on the last DAY. */
    static final Supplier<EmptyBoxes> FULL = made(Scenes::fillAll);

    private Scenes() {
    }

    static Supplier<EmptyBoxes> made(Consumer<EmptyBoxes> steps) {
        return () -> {
            EmptyBoxes x = new EmptyBoxes();
            steps.accept(x);
            return x;
        };
    }

    static EmptyBoxes on(int day) {
        EmptyBoxes x = new EmptyBoxes();
        goTo(x, day);
        return x;
    }

    static void goTo(EmptyBoxes x, int day) {
        while (x.many(8) < day) {
            x.days(Math.min(30, day - x.many(8)));
        }
    }

    private static void fillBusy(EmptyBoxes x) {
        x.days(3);
        Due.read(x, 0, "day 4;room 3 1;lost 60;");
        x.box(9000, 2, 3, 0);
        x.lack(70);
        x.rate(0, 9);
        x.rate(1, 1);
        x.week(5, 4, 1, 2);
        x.leave(2, 3, true);
        x.keep();
        Due.read(x, 1, "free 2;day 10;drop 2 40;room 2 1;worn 5;lost 900;");
        x.box(1234, 0, 0, -1);
        x.box(1244, 1, 1, 1);
        x.box(2001, 2, 2, 0);
        x.box(3001, 0, 3, 1);
        x.box(7, 0, 1, 0);
        x.box(8, 1, 2, 1);
        x.days(2);
        x.word(1, 4, 3, 0);
        x.word(5, 4, 1, 1);
        x.word(2, 5, 2, 0);
        x.word(4, 5, 2, 0);
        x.word(1, 5, 4, 1);
        Scenes.goTo(x, BUSY_DAY);
        x.word(1, 20, 4, 1);
        x.giveBack(2, 3);
        x.writeOff(3);
        x.week(0, 0, 0, 5);
        x.week(1, 2, 1, 4);
        x.week(2, 4, 1, 3);
        x.route(0, 1, 1, 230);
        x.route(1, 2, 0, 305);
        x.lack(150);
        x.turn(false, 0, 0, 0, 10, 20);
        x.turn(false, 3, 1, 0, 10, 20);
        x.turn(true, 1, 1, 0, 15, 25);
        x.leave(0, 1, true);
        x.use(1, 2, 3, 20);
        x.use(4, 0, 30, 30);
        x.use(5, 3, 0, 30);
        x.strike(1);
        x.rate(0, 11);
        x.rate(1, 3);
    }

    private static void fillAll(EmptyBoxes x) {
        Due.read(x, 0, "day 1;room 0 2;");
        for (int box = 0; box < 24; box++) {
            x.box(400 + box, box % 3, box % 4, box < 12 ? 0 : -1);
        }
        for (int word = 0; word < 60; word++) {
            x.word(word % 20, 0, word % 6, word / 20 % 2);
        }
        x.keep();
        goTo(x, 200);
        for (int i = 0; i < 10; i++) {
            x.route(i % 6, (i + 1) % 6, i % 3, 100 * i + 7);
            x.week(i % 6, i % 5, i % 2, 9);
        }
        for (int i = 0; i < 7; i++) {
            x.turn(false, i % 6, i % 4, 0, i, 200);
            x.turn(true, (i + 1) % 6, i % 4, 0, i + 3, 200);
        }
        for (int use = 0; use < 40; use++) {
            x.use(use % 24, (use % 24 + 1) % 4, use, 200);
        }
        Due.feed(x, "lost 12;" + " ".repeat(112));
    }

    /** What an object answers from here on, as one text; the object is spent by that. */
    static String aftermath(EmptyBoxes x) {
        StringBuilder s = new StringBuilder();
        lookAndSpend(x, s);
        s.append(" tape ").append(x.read(2));
        for (int what = 0; what < 26; what++) {
            s.append(' ').append(x.lease(2, what));
        }
        s.append(" back ").append(x.back());
        lookAndSpend(x, s);
        return s.toString();
    }

    private static void lookAndSpend(EmptyBoxes x, StringBuilder s) {
        s.append(Due.picture(x));
        lookAtBoxes(x, s);
        lookAtPool(x, s);
        spendBoxes(x, s);
        spendWeeks(x, s);
        s.append(" next");
        s.append(' ').append(x.box(9876, 0, 0, -1)).append(' ').append(x.word(0, 0, 0, 0));
        s.append(' ').append(x.route(0, 1, 0, 0)).append(' ').append(x.use(0, x.of(0, 2) == 0 ? 1 : 0, 0, 0));
        s.append(' ').append(x.turn(false, 0, 0, 0, 0, 0)).append(' ').append(x.turn(true, 0, 0, 0, 0, 0));
        s.append(' ').append(x.clear()).append(' ').append(x.days(1));
    }

    private static void lookAtBoxes(EmptyBoxes x, StringBuilder s) {
        s.append(" find");
        for (int box = 0; box < x.many(0); box++) {
            int read = x.of(box, 0) * 10 + x.check(x.of(box, 0));
            s.append(' ').append(x.find(read)).append(' ').append(x.find(read / 10 * 10));
            s.append(" where");
            for (int d = 0; d <= x.many(8); d++) {
                s.append(' ').append(x.where(box, d, x.many(8))).append('s').append(x.since(box, d, x.many(8)));
            }
        }
        s.append(" count");
        for (int what = 0; what <= 30; what++) {
            s.append(' ').append(x.count(what));
        }
    }

    private static void lookAtPool(EmptyBoxes x, StringBuilder s) {
        s.append(" pool");
        for (int k = 0; k <= x.many(8); k++) {
            for (int line = 0; line < 4; line++) {
                s.append(' ').append(x.net(line, k)).append(' ').append(x.owes(line, (line + 1) % 4, k));
            }
        }
        s.append(" struck");
        for (int use = 0; use < x.many(6); use++) {
            s.append(' ').append(x.strike(use));
        }
        s.append(" rates ").append(x.rate(0, 1)).append(' ').append(x.rate(1, 1));
        s.append(" leave");
        for (int line = 0; line < 4; line++) {
            for (int other = 0; other < 4; other++) {
                s.append(' ').append(x.leave(line, other, true));
            }
        }
    }

    private static void spendBoxes(EmptyBoxes x, StringBuilder s) {
        s.append(" ended");
        for (int box = 0; box < x.many(0); box++) {
            s.append(' ').append(x.giveBack(box, 1)).append(' ').append(x.writeOff(box));
        }
    }

    private static void spendWeeks(EmptyBoxes x, StringBuilder s) {
        s.append(" lack ").append(x.lack(1)).append(" weeks");
        for (int place = 0; place < 6; place++) {
            for (int week = 0; week < 5; week++) {
                s.append(' ').append(x.week(place, week, 0, 0)).append(' ').append(x.week(place, week, 1, 0));
            }
        }
        // What is left of the routes shows in the gains of a need that only they can meet.
        x.lack(500);
        for (int place = 0; place < 6; place++) {
            x.week(place, 2, 1, 9);
            x.week((place + 1) % 6, 0, 0, 9);
            x.week((place + 2) % 6, 2, 0, 9);
            s.append(' ').append(x.least());
            x.week(place, 2, 1, 0);
            x.week((place + 1) % 6, 0, 0, 0);
            x.week((place + 2) % 6, 2, 0, 0);
        }
    }
}
