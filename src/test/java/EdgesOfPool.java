import java.util.function.Supplier;

/** The edges of promises 27 (rate) to 34 (back). */
final class EdgesOfPool {
    private static final int NUMBER = EmptyBoxes.NUMBER;
    private static final int FULL = EmptyBoxes.FULL;
    private static final int NONE = EmptyBoxes.NONE;
    private static final int STATE = EmptyBoxes.STATE;
    private static final int NOUGHT = 1000000;

    private final Edges e;

    EdgesOfPool(Edges e) {
        this.e = e;
    }

    void run() {
        rate();
        rateOfDays();
        use();
        useRefusals();
        strike();
        net();
        netRefusals();
        owes();
        many();
        manyRefusals();
        keep();
        back();
    }

    /** A BOX of LINE 0, on a DAY. */
    private static EmptyBoxes boxOn(int day) {
        EmptyBoxes x = Scenes.on(day);
        x.box(1, 0, 0, -1);
        return x;
    }

    private void rate() {
        e.test(27, "RATE (what = 0), FREE (1) is v: what it was.", () -> {
            EmptyBoxes x = new EmptyBoxes();
            e.is("RATE 50", x.rate(0, 50), 5);
            e.is("FREE 10", x.rate(1, 10), 2);
            e.is("RATE 0", x.rate(0, 0), 50);
            e.is("FREE 0", x.rate(1, 0), 10);
            e.is("RATE 1", x.rate(0, 1), 0);
            e.is("FREE 1", x.rate(1, 1), 0);
        });
        e.test(27, "NUMBER: another what", () -> {
            e.range("rate(what, 0)", 0, 1, Scenes.BUSY, (x, v) -> x.rate(v, 0));
            e.range("rate(what, 10)", 0, 1, Scenes.BUSY, (x, v) -> x.rate(v, 10));
        });
        e.test(27, "or v isn't as told.", () -> {
            e.range("RATE", 0, 50, Scenes.BUSY, (x, v) -> x.rate(0, v));
            e.range("FREE", 0, 10, Scenes.BUSY, (x, v) -> x.rate(1, v));
            e.refused("a FREE of 11 to 50", NUMBER, Scenes.BUSY, x -> x.rate(1, 50));
        });
    }

    private void rateOfDays() {
        e.test(27, "RATE (0 to 50; 5 at first) is for each DAY of a USE, both ends too, but for the first FREE (0 to 10; "
                + "2 at first) of them.", () -> {
                    int[] first = {0, 0, 5, 10, 15};
                    for (int days = 1; days <= 5; days++) {
                        EmptyBoxes x = boxOn(9);
                        x.use(0, 3, 2, 1 + days);
                        e.is(days + " DAYS at first", x.owes(3, 0, 9), first[days - 1]);
                        x.rate(1, 0);
                        e.is(days + " DAYS, FREE 0", x.owes(3, 0, 9), 5 * days);
                        x.rate(0, 50);
                        e.is(days + " DAYS of 50", x.owes(3, 0, 9), 50 * days);
                        x.rate(0, 0);
                        e.is(days + " DAYS of 0", x.owes(3, 0, 9), 0);
                    }
                    EmptyBoxes x = boxOn(10);
                    x.rate(1, 10);
                    x.use(0, 3, 0, 9);
                    e.is("ten DAYS, FREE 10", x.owes(3, 0, 10), 0);
                    x.use(0, 3, 0, 10);
                    e.is("eleven DAYS, FREE 10", x.owes(3, 0, 10), 5);
                    EmptyBoxes y = boxOn(200);
                    y.rate(0, 50);
                    y.rate(1, 0);
                    for (int use = 0; use < 40; use++) {
                        y.use(0, 3, 0, 200);
                    }
                    e.is("as much as can be", y.owes(3, 0, 200), 40 * 201 * 50);
                    e.is("NET of who owes it", y.net(3, 200), NOUGHT - 402000);
                    e.is("NET of the other", y.net(0, 200), NOUGHT + 402000);
                });
    }

    private void use() {
        e.test(28, "A USE: its number.", () -> {
            EmptyBoxes x = boxOn(0);
            e.is("the first", x.use(0, 1, 0, 0), 0);
            e.is("a refused one takes no number", x.use(0, 0, 0, 0), STATE);
            e.is("the second", x.use(0, 1, 0, 0), 1);
        });
        e.test(28, "6 THE POOL: USES, 40 at most: a BOX is used by a LINE that is not its own from a DAY to a DAY (not "
                + "behind TODAY), KNOWN from TODAY on.", () -> {
                    EmptyBoxes x = boxOn(9);
                    for (int number = 0; number < 40; number++) {
                        e.is("USE " + number, x.use(0, 1 + number % 3, 0, 9), number);
                    }
                    e.is("the 41st", x.use(0, 1, 0, 9), FULL);
                    e.is("many(6)", x.many(6), 40);
                    EmptyBoxes y = boxOn(9);
                    e.is("of TODAY alone", y.use(0, 3, 9, 9), 0);
                    e.is("from DAY 0 to TODAY", y.use(0, 3, 0, 9), 1);
                    e.is("to the DAY behind TODAY", y.use(0, 3, 0, 10), NUMBER);
                    e.is("as KNOWN on the DAY ahead", y.owes(3, 0, 8), 0);
                    e.is("as KNOWN TODAY", y.owes(3, 0, 9), 40);
                });
    }

    private void useRefusals() {
        int today = Scenes.BUSY_DAY;
        e.test(28, "NUMBER: there is no such BOX, LINE, DAY (either, 0 to TODAY)", () -> {
            e.range("use, box", 0, Scenes.BUSY_BOXES - 1, Scenes.BUSY, (x, v) -> x.use(v, 0, 0, 5));
            e.range("use, line", 0, 3, Scenes.BUSY, (x, v) -> x.use(1, v, 0, 5));
            e.range("use, from", 0, today, Scenes.BUSY, (x, v) -> x.use(1, 2, v, today));
            e.range("use, to", 0, today, Scenes.BUSY, (x, v) -> x.use(1, 2, 0, v));
            e.range("use, both", 0, today, Scenes.BUSY, (x, v) -> x.use(1, 2, v, v));
            e.is("no BOX at all", new EmptyBoxes().use(0, 1, 0, 0), NUMBER);
        });
        e.test(28, "or to is ahead of from", () -> {
            e.refused("1 to 0", NUMBER, Scenes.BUSY, x -> x.use(1, 2, 1, 0));
            e.refused("30 to 29", NUMBER, Scenes.BUSY, x -> x.use(1, 2, 30, 29));
            e.is("1 to 1", Scenes.BUSY.get().use(1, 2, 1, 1), Scenes.BUSY_USES);
        });
        e.test(28, "STATE: the LINE is its own", () -> {
            e.refused("BOX 1 of LINE 0", STATE, Scenes.BUSY, x -> x.use(1, 0, 0, 5));
            e.refused("BOX 0 of LINE 3", STATE, Scenes.BUSY, x -> x.use(0, 3, 0, 5));
        });
        e.test(28, "FULL.", () -> {
            e.refused("use", FULL, Scenes.FULL, x -> x.use(0, 1, 0, 0));
            Supplier<EmptyBoxes> struck = () -> {
                EmptyBoxes x = Scenes.FULL.get();
                x.strike(0);
                return x;
            };
            e.refused("use, one is STRUCK", FULL, struck, x -> x.use(0, 1, 0, 0));
        });
        e.test(28, "REFUSALS, of several the first one named", () -> {
            e.refused("its own, full", STATE, Scenes.FULL, x -> x.use(0, 0, 0, 0));
            e.refused("to ahead of from, its own, full", NUMBER, Scenes.FULL, x -> x.use(0, 0, 1, 0));
            e.refused("DAY 201, full", NUMBER, Scenes.FULL, x -> x.use(0, 1, 0, 201));
            e.refused("to behind TODAY, its own", NUMBER, Scenes.BUSY, x -> x.use(1, 0, 0, 31));
        });
    }

    private void strike() {
        e.test(29, "A USE is STRUCK: what it was worth.", () -> {
            EmptyBoxes x = boxOn(9);
            x.use(0, 1, 0, 9);
            x.use(0, 1, 0, 1);
            x.use(0, 1, 3, 9);
            e.is("ten DAYS", x.strike(0), 40);
            e.is("two DAYS", x.strike(1), 0);
            x.rate(0, 50);
            x.rate(1, 0);
            e.is("seven DAYS, by RATE and FREE as they are", x.strike(2), 350);
        });
        e.test(29, "A USE may be STRUCK, known from TODAY on.", () -> {
            EmptyBoxes x = boxOn(9);
            x.use(0, 1, 0, 9);
            x.days(3);
            x.strike(0);
            e.is("on the DAY ahead", x.owes(1, 0, 11), 40);
            e.is("on the DAY itself", x.owes(1, 0, 12), 0);
            x.days(1);
            e.is("on the DAY behind", x.owes(1, 0, 13), 0);
            e.is("NET on the DAY ahead", x.net(0, 11), NOUGHT + 40);
            e.is("NET on the DAY itself", x.net(0, 12), NOUGHT);
            x.use(0, 1, 0, 9);
            x.strike(1);
            e.is("STRUCK on the DAY on which it was told", x.owes(1, 0, 13), 0);
            EmptyBoxes y = boxOn(200);
            y.use(0, 1, 0, 9);
            e.is("on the last DAY", y.owes(1, 0, 200), 40);
            y.strike(0);
            e.is("STRUCK on the last DAY", y.owes(1, 0, 200), 0);
            EmptyBoxes z = boxOn(0);
            z.rate(1, 0);
            z.use(0, 1, 0, 0);
            z.strike(0);
            e.is("STRUCK on DAY 0", z.owes(1, 0, 0), 0);
        });
        e.test(29, "NUMBER: there is none such", () -> {
            e.range("strike(use)", 0, Scenes.BUSY_USES - 1, Scenes.BUSY, EmptyBoxes::strike);
            e.range("strike(use) of 40", 0, 39, Scenes.FULL, EmptyBoxes::strike);
            e.is("none at all", new EmptyBoxes().strike(0), NUMBER);
        });
        e.test(29, "STATE: it was already.", () -> {
            e.refused("strike(1)", STATE, Scenes.BUSY, x -> x.strike(1));
            EmptyBoxes x = boxOn(0);
            x.use(0, 1, 0, 0);
            e.is("worth nothing", x.strike(0), 0);
            e.is("at once", x.strike(0), STATE);
            x.days(1);
            e.is("a DAY on", x.strike(0), STATE);
        });
    }

    private void net() {
        e.test(30, "NET of a LINE as KNOWN on DAY k: what others owe it by USES that are KNOWN, less what it owes.", () -> {
            EmptyBoxes x = boxOn(9);
            x.box(2, 0, 3, -1);
            x.use(0, 3, 0, 9);
            x.use(1, 0, 0, 4);
            x.use(1, 2, 0, 2);
            int[] due = {40 - 15, 0, -5, 15 + 5 - 40};
            for (int line = 0; line < 4; line++) {
                e.is("LINE " + line, x.net(line, 9), NOUGHT + due[line]);
                e.is("LINE " + line + " as KNOWN on 8", x.net(line, 8), NOUGHT);
            }
        });
        e.test(30, "NET of a LINE as KNOWN on DAY k, and 1000000 more.", () -> {
            e.is("0 of nothing", new EmptyBoxes().net(0, 0), NOUGHT);
            e.is("3 of nothing", new EmptyBoxes().net(3, 0), NOUGHT);
            EmptyBoxes x = Scenes.FULL.get();
            int sum = 0;
            for (int line = 0; line < 4; line++) {
                sum += x.net(line, 200);
            }
            e.is("all nets to nought", sum, 4 * NOUGHT);
        });
    }

    private void netRefusals() {
        e.test(30, "NUMBER: there is no such LINE", () ->
                e.range("net, line", 0, 3, Scenes.BUSY, (x, v) -> x.net(v, 0)));
        e.test(30, "or k isn't 0 to TODAY.", () -> {
            e.range("net, k", 0, Scenes.BUSY_DAY, Scenes.BUSY, (x, v) -> x.net(0, v));
            e.range("net, k on the last DAY", 0, 200, Scenes.FULL, (x, v) -> x.net(0, v));
        });
    }

    private void owes() {
        e.test(31, "What one LINE owes another one by USES (not netted), as KNOWN on DAY k.", () -> {
            EmptyBoxes x = boxOn(9);
            x.box(2, 0, 3, -1);
            x.use(0, 3, 0, 9);
            x.use(1, 0, 0, 4);
            e.is("3 owes 0", x.owes(3, 0, 9), 40);
            e.is("0 owes 3", x.owes(0, 3, 9), 15);
            e.is("1 owes 0", x.owes(1, 0, 9), 0);
            e.is("0 owes 0", x.owes(0, 0, 9), 0);
            e.is("as KNOWN on 8", x.owes(3, 0, 8), 0);
        });
        e.test(31, "NUMBER: there is no such LINE (either)", () -> {
            e.range("owes, line", 0, 3, Scenes.BUSY, (x, v) -> x.owes(v, 1, 0));
            e.range("owes, other", 0, 3, Scenes.BUSY, (x, v) -> x.owes(1, v, 0));
        });
        e.test(31, "or k isn't 0 to TODAY.", () ->
                e.range("owes, k", 0, Scenes.BUSY_DAY, Scenes.BUSY, (x, v) -> x.owes(2, 0, v)));
    }

    private void manyAre(String of, EmptyBoxes x, int... due) {
        for (int what = 0; what <= 11; what++) {
            e.is(of + ": many(" + what + ")", x.many(what), due[what]);
        }
    }

    private void many() {
        e.test(32, "How many: what = 0 BOXES, 1 WORDS, 2 ROUTES, 3 OFFERS, 4 WANTS, 5 LEASES that were read, 6 USES, 7 "
                + "bytes of THE TAPE, 8 TODAY, 9 GIVEN BACK, 10 WRITTEN OFF, 11 all BILLS together.", () -> {
                    manyAre("new", new EmptyBoxes(), 0, 0, 0, 0, 0, 0, 0, 0, 0, 0, 0, 0);
                    manyAre("busy", Scenes.BUSY.get(), 7, 6, 2, 2, 1, 2, 3, 15, 30, 1, 1, 315 + 172);
                    manyAre("full", Scenes.FULL.get(), 24, 60, 10, 7, 7, 1, 40, 120, 200, 0, 0, 0);
                    EmptyBoxes x = new EmptyBoxes();
                    for (int lease = 2; lease >= 0; lease--) {
                        Due.read(x, lease, "lost " + (1 + lease) + ";");
                        e.is("LEASES", x.many(5), 3 - lease);
                    }
                    Due.read(x, 1, "lost 5;");
                    e.is("read anew", x.many(5), 3);
                    for (int box = 0; box < 24; box++) {
                        x.box(box, 0, 0, box % 3);
                        x.writeOff(box);
                    }
                    e.is("WRITTEN OFF", x.many(10), 24);
                    e.is("all BILLS", x.many(11), 8 * (1 + 5 + 3));
                });
    }

    private void manyRefusals() {
        e.test(32, "NUMBER: another what.", () ->
                e.range("many(what)", 0, 11, Scenes.BUSY, EmptyBoxes::many));
        e.test(32, "NUMBER: there is no such thing, or a number is not as told; FULL; NONE: there is none; STATE: as "
                + "told.", () -> {
                    EmptyBoxes x = Scenes.FULL.get();
                    e.is("no such thing", x.of(24, 0), NUMBER);
                    e.is("not as told", x.lack(501), NUMBER);
                    e.is("FULL", x.feed(0, 1), FULL);
                    e.is("none", x.lease(2, 0), NONE);
                    e.is("STATE", x.days(1), STATE);
                });
    }

    private void keep() {
        e.test(33, "All but THE TAPE is kept: 1.", () -> {
            EmptyBoxes x = Scenes.BUSY.get();
            e.is("keep()", x.keep(), 1);
            e.is("THE TAPE stays", x.many(7), 15);
            e.is("it is a TEXT yet", x.read(2), 2);
            e.is("back()", x.back(), 1);
            e.is("THE TAPE does not come back", x.many(7), 0);
            e.is("but LEASE 2 is gone again", x.lease(2, 0), NONE);
            e.leaves("keep() and back()", 1, Scenes.BUSY, y -> y.keep() * y.back(), keptAsItIs());
            e.is("keep() of a new object", new EmptyBoxes().keep(), 1);
        });
    }

    /** The busy scene once more, but what is kept is like it. */
    private static Supplier<EmptyBoxes> keptAsItIs() {
        return () -> {
            EmptyBoxes x = Scenes.BUSY.get();
            x.keep();
            return x;
        };
    }

    private void back() {
        e.test(34, "It becomes what was kept latest (which stays): 1.", () -> {
            EmptyBoxes x = new EmptyBoxes();
            x.keep();
            x.days(1);
            x.keep();
            x.days(1);
            e.is("back()", x.back(), 1);
            e.is("the latest", x.many(8), 1);
            x.days(30);
            x.box(1, 0, 0, -1);
            e.is("back() again", x.back(), 1);
            e.is("it stays", x.many(8), 1);
            e.is("no BOX", x.many(0), 0);
            e.is("its number again", x.box(2, 0, 0, -1), 0);
            e.is("its MARK", x.of(0, 0), 2);
            EmptyBoxes y = new EmptyBoxes();
            y.keep();
            spendAll(y);
            e.is("back() to a new object", y.back(), 1);
            manyAre("but for THE TAPE", y, 0, 0, 0, 0, 0, 0, 0, 3, 0, 0, 0, 0);
            e.is("LACK", y.lack(1), 100);
            e.is("RATE", y.rate(0, 1), 5);
            e.is("FREE", y.rate(1, 1), 2);
            e.is("STOCK", y.week(0, 0, 0, 1), 0);
            e.is("NEED", y.week(0, 4, 1, 1), 0);
            e.is("LEAVE", y.leave(0, 1, true), 1);
            e.is("LEASE", y.lease(0, 1), NONE);
            EmptyBoxes z = new EmptyBoxes();
            z.keep();
            z.week(0, 0, 1, 3);
            e.is("THE LEAST ahead of back()", z.least(), 300);
            z.back();
            e.is("THE LEAST behind it", z.least(), 0);
            e.is("WORTH behind it", z.worth(0, 0), 0);
        });
        e.test(34, "NONE: nothing is kept.", () -> {
            e.refused("of a new object", NONE, Scenes.NEW, EmptyBoxes::back);
            Supplier<EmptyBoxes> spent = Scenes.made(EdgesOfPool::spendAll);
            e.refused("of one that is used", NONE, spent, EmptyBoxes::back);
        });
    }

    private static void spendAll(EmptyBoxes x) {
        Due.read(x, 0, "day 5;");
        x.box(1, 0, 0, 0);
        x.word(0, 0, 0, 0);
        x.use(0, 1, 0, 0);
        x.giveBack(0, 0);
        x.days(3);
        x.week(0, 0, 0, 3);
        x.week(0, 4, 1, 9);
        x.route(0, 1, 0, 100);
        x.lack(7);
        x.rate(0, 7);
        x.rate(1, 7);
        x.turn(false, 0, 0, 0, 0, 0);
        x.turn(true, 0, 0, 0, 0, 0);
        x.leave(0, 1, true);
        x.feed(0, 3);
    }
}
