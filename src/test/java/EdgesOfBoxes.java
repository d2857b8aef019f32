import java.util.function.Supplier;

/** The edges of promises 1 (a new object) to 6 (of). */
final class EdgesOfBoxes {
    private static final int NUMBER = EmptyBoxes.NUMBER;
    private static final int FULL = EmptyBoxes.FULL;
    private static final int NONE = EmptyBoxes.NONE;
    private static final int STATE = EmptyBoxes.STATE;
    private static final int MIN = Integer.MIN_VALUE;
    private static final int MAX = Integer.MAX_VALUE;

    private final Edges e;

    EdgesOfBoxes(Edges e) {
        this.e = e;
    }

    void run() {
        constants();
        newObject();
        days();
        boxNumbers();
        boxRefusals();
        check();
        found();
        findRefusals();
        of();
    }

    private void constants() {
        e.test(1, "The constants: `NUMBER = -1`: A number is none, or none that may be.", () -> {
            e.is("NUMBER", EmptyBoxes.NUMBER, -1);
            e.is("days(0)", new EmptyBoxes().days(0), -1);
        });
        e.test(1, "`FULL = -2`: There are as many as may be.", () -> {
            e.is("FULL", EmptyBoxes.FULL, -2);
            e.is("route", Scenes.FULL.get().route(0, 1, 0, 0), -2);
        });
        e.test(1, "`NONE = -3`: There is none.", () -> {
            e.is("NONE", EmptyBoxes.NONE, -3);
            e.is("find(0)", new EmptyBoxes().find(0), -3);
        });
        e.test(1, "`STATE = -4`: It can't be so now.", () -> {
            e.is("STATE", EmptyBoxes.STATE, -4);
            e.is("days(1)", Scenes.on(200).days(1), -4);
        });
        e.test(1, "An object is used for at most 512 calls after it has been made; what later calls answer is free.",
                () -> {
                    EmptyBoxes x = new EmptyBoxes();
                    for (int call = 1; call <= 512; call++) {
                        e.is("call " + call, x.check(9999), 3);
                    }
                    x.check(9999);
                });
    }

    private void newObject() {
        e.test(1, "DAY 0", () -> e.is("many(8)", new EmptyBoxes().many(8), 0));
        e.test(1, "nothing is there", () -> {
            Scenes.FULL.get();
            EmptyBoxes x = new EmptyBoxes();
            for (int what = 0; what <= 11; what++) {
                e.is("many(" + what + ")", x.many(what), 0);
            }
            e.is("of(0, 0)", x.of(0, 0), NUMBER);
            e.is("where(0, 0, 0)", x.where(0, 0, 0), NUMBER);
            e.is("strike(0)", x.strike(0), NUMBER);
            e.is("suits(0, 0)", x.suits(0, 0), NUMBER);
            e.is("match(10)", x.match(10), NUMBER);
            e.is("clear()", x.clear(), 0);
            e.is("count(20)", x.count(20), 0);
            e.is("least()", x.least(), 0);
            for (int pair = 0; pair < 16; pair++) {
                e.is("leave", x.leave(pair / 4, pair % 4, false), pair / 4 == pair % 4 ? NUMBER : 0);
            }
        });
        e.test(1, "no LEASE was read", () -> {
            EmptyBoxes x = new EmptyBoxes();
            for (int lease = 0; lease < 3; lease++) {
                e.is("lease(" + lease + ", 0)", x.lease(lease, 0), NONE);
                e.is("box under " + lease, x.box(1, 0, 0, lease), STATE);
            }
        });
        e.test(1, "nothing is kept", () -> e.refused("back()", NONE, Scenes.NEW, EmptyBoxes::back));
    }

    private void days() {
        e.test(2, "TODAY goes n (1 to 30) DAYS on: it.", () -> {
            EmptyBoxes x = new EmptyBoxes();
            e.is("days(1)", x.days(1), 1);
            e.is("days(30)", x.days(30), 31);
            e.is("many(8)", x.many(8), 31);
        });
        e.test(2, "NUMBER: n isn't as told", () -> {
            e.range("days(n)", 1, 30, Scenes.NEW, EmptyBoxes::days);
            e.range("days(n)", 1, 30, Scenes.BUSY, EmptyBoxes::days);
        });
        Supplier<EmptyBoxes> day171 = () -> Scenes.on(171);
        e.test(2, "STATE: it would be above 200.", () -> {
            e.refused("days(30) from 171", STATE, day171, x -> x.days(30));
            e.is("days(29) from 171", Scenes.on(171).days(29), 200);
            e.is("days(30) from 170", Scenes.on(170).days(30), 200);
            e.refused("days(1) from 200", STATE, Scenes.FULL, x -> x.days(1));
        });
        e.test(2, "DAYS are 0 to 200; TODAY is one (0 at first).", () -> {
            EmptyBoxes x = Scenes.on(199);
            e.is("0 at first", new EmptyBoxes().many(8), 0);
            e.is("days(1) from 199", x.days(1), 200);
            e.is("days(1) from 200", x.days(1), STATE);
            e.is("many(8)", x.many(8), 200);
        });
        e.test(2, "REFUSALS, of several the first one named", () -> {
            e.refused("days(31) on 200: NUMBER ahead of STATE", NUMBER, Scenes.FULL, x -> x.days(31));
            e.refused("days(max) on 200: the sum would wrap", NUMBER, Scenes.FULL, x -> x.days(MAX));
        });
    }

    private void boxNumbers() {
        e.test(3, "A BOX: its number.", () -> {
            EmptyBoxes x = new EmptyBoxes();
            e.is("the first", x.box(5, 0, 0, -1), 0);
            e.is("a refused one takes no number", x.box(5, 0, 0, -1), STATE);
            e.is("the second", x.box(6, 0, 0, -1), 1);
        });
        e.test(3, "1 BOXES, 24 at most, are numbered from 0 as they come", () -> {
            EmptyBoxes x = new EmptyBoxes();
            for (int number = 0; number < 24; number++) {
                e.is("box " + number, x.box(100 + number, 0, 0, -1), number);
            }
            e.is("the 25th", x.box(99, 0, 0, -1), FULL);
            e.is("many(0)", x.many(0), 24);
        });
        e.test(3, "each has a MARK: four digits (0000 to 9999, as a number 0 to 9999)", () -> {
            EmptyBoxes x = new EmptyBoxes();
            e.is("box(0)", x.box(0, 0, 0, -1), 0);
            e.is("box(9999)", x.box(9999, 0, 0, -1), 1);
            e.is("of(0, 0)", x.of(0, 0), 0);
            e.is("of(1, 0)", x.of(1, 0), 9999);
        });
        e.test(3, "A BOX is of a KIND (0 DRY, 1 COLD, 2 OPEN), of a LINE (0 to 3), and under a LEASE (0 to 2) "
                + "from the DAY on which it came, or its LINE's own.", () -> {
                    EmptyBoxes x = new EmptyBoxes();
                    for (int lease = 0; lease < 3; lease++) {
                        x.read(lease);
                    }
                    x.days(30);
                    for (int i = 0; i < 12; i++) {
                        int box = x.box(i, i % 3, i / 3, i % 4 - 1);
                        e.is("KIND", x.of(box, 1), i % 3);
                        e.is("LINE", x.of(box, 2), i / 3);
                        e.is("LEASE", x.of(box, 3), i % 4 == 0 ? NONE : i % 4 - 1);
                        e.is("DAY", x.of(box, 4), 30);
                    }
                });
        e.test(3, "lease -1: its LINE's own.", () -> {
            EmptyBoxes x = new EmptyBoxes();
            x.read(0);
            x.box(1, 0, 0, -1);
            e.is("of(0, 3)", x.of(0, 3), NONE);
            e.is("writeOff(0)", x.writeOff(0), STATE);
        });
        e.test(3, "A MARK is of one BOX at most.", () -> {
            e.is("of a box GIVEN BACK", Scenes.BUSY.get().box(1244, 1, 1, 1), STATE);
            e.is("of a box WRITTEN OFF", Scenes.BUSY.get().box(2001, 2, 2, 0), STATE);
        });
    }

    private void boxRefusals() {
        e.test(3, "NUMBER: mark isn't 0 to 9999", () ->
                e.range("box(mark)", 0, 9999, Scenes.BUSY, (x, v) -> x.box(v, 0, 0, -1)));
        e.test(3, "there is no such KIND, LINE, LEASE (-1 to 2)", () -> {
            e.range("box, kind", 0, 2, Scenes.BUSY, (x, v) -> x.box(55, v, 0, -1));
            e.range("box, line", 0, 3, Scenes.BUSY, (x, v) -> x.box(55, 0, v, -1));
            e.range("box, lease", -1, 2, Scenes.BUSY, (x, v) -> x.box(55, 0, 0, v));
        });
        e.test(3, "STATE: the MARK is of one", () -> {
            e.refused("box(1234)", STATE, Scenes.BUSY, x -> x.box(1234, 0, 0, -1));
            e.refused("box(9000), else unlike", STATE, Scenes.BUSY, x -> x.box(9000, 1, 2, 1));
            e.is("box(9001)", Scenes.BUSY.get().box(9001, 1, 2, 1), Scenes.BUSY_BOXES);
        });
        e.test(3, "or the LEASE was never read", () -> {
            e.refused("lease 2", STATE, Scenes.BUSY, x -> x.box(55, 0, 0, 2));
            e.is("lease 1", Scenes.BUSY.get().box(55, 0, 0, 1), Scenes.BUSY_BOXES);
            EmptyBoxes x = new EmptyBoxes();
            e.is("read with a FAULT", Due.read(x, 0, "day;"), -103);
            e.is("under it", x.box(55, 0, 0, 0), STATE);
            e.is("read of an empty TEXT", x.read(0), 0);
            e.is("under it", x.box(55, 0, 0, 0), 0);
        });
        e.test(3, "FULL.", () -> {
            e.refused("box on a full desk", FULL, Scenes.FULL, x -> x.box(55, 0, 0, -1));
            e.refused("box under a LEASE on a full desk", FULL, Scenes.FULL, x -> x.box(55, 0, 0, 0));
            EmptyBoxes x = Scenes.FULL.get();
            e.is("one is GIVEN BACK", x.giveBack(6, 0) >= 0);
            e.is("it still is a BOX", x.box(55, 0, 0, -1), FULL);
        });
        e.test(3, "REFUSALS, of several the first one named", () -> {
            e.refused("the MARK of one, on a full desk", STATE, Scenes.FULL, x -> x.box(400, 0, 0, -1));
            e.refused("a LEASE never read, on a full desk", STATE, Scenes.FULL, x -> x.box(55, 0, 0, 1));
            e.refused("no such KIND, the MARK of one, full", NUMBER, Scenes.FULL, x -> x.box(400, 3, 0, -1));
            e.refused("no such LEASE, the MARK of one, full", NUMBER, Scenes.FULL, x -> x.box(400, 0, 0, 3));
            e.refused("no MARK, a LEASE never read, full", NUMBER, Scenes.FULL, x -> x.box(10000, 0, 0, 1));
        });
    }

    private void check() {
        EmptyBoxes x = new EmptyBoxes();
        e.test(4, "and a CHECK: the first digit, 2 times the second, 4 times the third and 8 times the last one, "
                + "together, what is left by 11, and of that what is left by 10.", () -> {
                    int[][] due = {{0, 0}, {1000, 1}, {100, 2}, {10, 4}, {1, 8}, {9000, 9}, {9999, 3}, {8001, 5}};
                    for (int[] row : due) {
                        e.is("check(" + row[0] + ")", x.check(row[0]), row[1]);
                    }
                    e.is("9 together", x.check(1001), 9);
                    e.is("10 together: 10 by 11, 0 by 10", x.check(2001), 0);
                    e.is("11 together: 0 by 11", x.check(3001), 0);
                    e.is("12 together: 1 by 11", x.check(4001), 1);
                    e.is("21 together: 10 by 11, 0 by 10", x.check(5002), 0);
                    e.is("22 together: 0 by 11", x.check(6002), 0);
                });
        e.test(4, "CHECK of a MARK.", () -> {
            e.is("of no BOX", x.check(1234), 5);
            e.is("of a BOX", Scenes.BUSY.get().check(1234), 5);
        });
        e.test(4, "NUMBER: it isn't 0 to 9999.", () -> {
            e.range("check(mark)", 0, 9999, Scenes.BUSY, EmptyBoxes::check);
            e.is("check(min)", x.check(MIN), NUMBER);
        });
    }

    private static EmptyBoxes marks(int... marks) {
        EmptyBoxes x = new EmptyBoxes();
        for (int mark : marks) {
            x.box(mark, 0, 0, -1);
        }
        return x;
    }

    private void found() {
        e.test(5, "READ as five digits (a number 0 to 99999: a MARK and one digit behind): RIGHT, if the last is the "
                + "CHECK of that MARK.", () -> {
                    e.is("00000", marks(0).find(0), 0);
                    e.is("00018", marks(0, 1).find(18), 1);
                    e.is("99993", marks(0, 9999).find(99993), 1);
                    e.is("20010, of which 10 is left by 11", marks(0, 2001).find(20010), 1);
                });
        e.test(5, "FOUND is the BOX of that MARK if it is RIGHT and there is one", () -> {
            // 20010 and 30010 are both RIGHT and unlike in one digit alone.
            e.is("20010", marks(3001, 2001).find(20010), 1);
            e.is("30010", marks(3001, 2001).find(30010), 0);
            e.is("of a BOX GIVEN BACK", Scenes.BUSY.get().find(12449), 2);
            e.is("RIGHT, but there is none, and one is near", marks(3001).find(20010), 0);
        });
        e.test(5, "else the one BOX whose MARK and CHECK are unlike it in just one of the five digits", () -> {
            for (int read : new int[] {2345, 92345, 10345, 19345, 12045, 12945, 12305, 12395, 12340, 12349}) {
                e.is("one digit off: " + read, marks(5678, 1234).find(read), 1);
            }
            e.is("two digits off", marks(1234).find(12356), NONE);
            e.is("two digits changed about", marks(1234).find(13245), NONE);
            e.is("near by its number alone: 12345 and 12351", marks(1234).find(12351), NONE);
            e.is("the MARK of one, the other digit near another", marks(1234, 1244).find(12445), NONE);
            e.is("the other one goes on alone", marks(1244).find(12445), 0);
            e.is("99999", marks(9999).find(99999), 0);
            e.is("00001", marks(0).find(1), 0);
        });
        e.test(5, "if there is just one such.", () -> {
            e.is("two", marks(2001, 3001).find(40010), NONE);
            e.is("one", marks(2001, 9999).find(40010), 0);
            e.is("none", marks(2001, 3001, 1012).find(22002), NONE);
            // 5002 and 6002 are 50020 and 60020, but 7002 is 70021.
            e.is("two of three", marks(5002, 7002, 6002).find(80020), NONE);
            e.is("three", marks(2001, 3001, 4001).find(40010), NONE);
        });
    }

    private void findRefusals() {
        e.test(5, "The BOX that is FOUND by what was READ.", () ->
                e.is("find(90009)", Scenes.BUSY.get().find(90009), 0));
        e.test(5, "NUMBER: it isn't 0 to 99999", () ->
                e.range("find(read)", 0, 99999, Scenes.BUSY, EmptyBoxes::find));
        e.test(5, "NONE.", () -> {
            e.refused("find(55555)", NONE, Scenes.BUSY, x -> x.find(55555));
            e.is("of no BOX", new EmptyBoxes().find(0), NONE);
            e.is("of no BOX", new EmptyBoxes().find(99999), NONE);
        });
        e.test(5, "REFUSALS, of several the first one named", () -> {
            e.is("find(-1) of no BOX", new EmptyBoxes().find(-1), NUMBER);
            e.is("find(100000) of no BOX", new EmptyBoxes().find(100000), NUMBER);
        });
    }

    private void of() {
        e.test(6, "Of a BOX: what = 0 MARK, 1 KIND, 2 LINE, 3 LEASE (NONE: own), 4 the DAY on which it came, "
                + "5 0 it is with its LINE, 1 GIVEN BACK, 2 WRITTEN OFF, 6 its BILL (NONE: none yet).", () -> {
                    EmptyBoxes x = Scenes.BUSY.get();
                    int[][] due = {
                        {9000, 2, 3, 0, 3, 0, NONE},
                        {1234, 0, 0, NONE, 3, 0, NONE},
                        // DAYS 3 to 30 but for 2, 10 each; drop 40; 3 times 5.
                        {1244, 1, 1, 1, 3, 1, 26 * 10 + 40 + 15},
                        // DAYS 3 to 30, 4 each; lost 60.
                        {2001, 2, 2, 0, 3, 2, 28 * 4 + 60},
                    };
                    for (int box = 0; box < due.length; box++) {
                        for (int what = 0; what <= 6; what++) {
                            e.is("of(" + box + ", " + what + ")", x.of(box, what), due[box][what]);
                        }
                    }
                    EmptyBoxes y = new EmptyBoxes();
                    y.read(0);
                    y.box(0, 0, 0, 0);
                    e.is("writeOff for nothing", y.writeOff(0), 0);
                    e.is("a BILL of 0 is one", y.of(0, 6), 0);
                });
        e.test(6, "NUMBER: there is none such", () -> {
            e.range("of(box, 0)", 0, Scenes.BUSY_BOXES - 1, Scenes.BUSY, (x, v) -> x.of(v, 0));
            e.range("of(box, 5) on a full desk", 0, 23, Scenes.FULL, (x, v) -> x.of(v, 5));
            e.is("none at all", new EmptyBoxes().of(0, 0), NUMBER);
        });
        e.test(6, "another what.", () ->
                e.range("of(1, what)", 0, 6, Scenes.BUSY, (x, v) -> x.of(1, v)));
    }
}
