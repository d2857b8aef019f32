/** The edges of promises 12 (week) to 16 (worth). */
final class EdgesOfWeeks {
    private static final int NUMBER = EmptyBoxes.NUMBER;
    private static final int FULL = EmptyBoxes.FULL;
    private static final int STOCK = 0;
    private static final int NEED = 1;

    private final Edges e;

    EdgesOfWeeks(Edges e) {
        this.e = e;
    }

    void run() {
        week();
        route();
        routeLimits();
        lack();
        leastOfWeeks();
        leastOfRoutes();
        leastOfAll();
        worth();
        worthRefusals();
    }

    /** Nine boxes at PLACE 0 and nine wanted at PLACE 1, each in its WEEK. */
    private static EmptyBoxes nine(int stockWeek, int needWeek) {
        EmptyBoxes x = new EmptyBoxes();
        x.week(0, stockWeek, STOCK, 9);
        x.week(1, needWeek, NEED, 9);
        return x;
    }

    private void week() {
        e.test(12, "STOCK (what = 0), NEED (1) of a PLACE and a WEEK is v: what it was.", () -> {
            EmptyBoxes x = new EmptyBoxes();
            for (int i = 0; i < 60; i++) {
                e.is("0 at first", x.week(i / 10, i / 2 % 5, i % 2, 1 + i % 9), 0);
            }
            for (int i = 0; i < 60; i++) {
                e.is("what it was", x.week(i / 10, i / 2 % 5, i % 2, 0), 1 + i % 9);
                e.is("0 again", x.week(i / 10, i / 2 % 5, i % 2, 0), 0);
            }
        });
        e.test(12, "3 WEEKS 0 to 4.", () -> {
            EmptyBoxes x = new EmptyBoxes();
            e.is("4", x.week(5, 4, NEED, 9), 0);
            e.is("5", x.week(5, 5, NEED, 9), NUMBER);
            e.is("-1", x.week(5, -1, NEED, 9), NUMBER);
            e.is("least()", x.least(), 900);
        });
        e.test(12, "For a PLACE and a WEEK STOCK (0 to 9; 0 at first) is what comes free there as the WEEK begins, "
                + "NEED (0 to 9; 0 at first) how many are wanted there in it.", () -> {
                    EmptyBoxes x = new EmptyBoxes();
                    e.is("NEED 9", x.week(2, 3, NEED, 9), 0);
                    e.is("NEED 10", x.week(2, 3, NEED, 10), NUMBER);
                    e.is("without STOCK", x.least(), 900);
                    e.is("STOCK 9 of the same WEEK", x.week(2, 3, STOCK, 9), 0);
                    e.is("STOCK 10", x.week(2, 3, STOCK, 10), NUMBER);
                    e.is("it comes free as the WEEK begins", x.least(), 0);
                    e.is("STOCK was", x.week(2, 3, STOCK, 8), 9);
                    e.is("one lacks", x.least(), 100);
                });
        e.test(12, "NUMBER: there is no such PLACE, WEEK, what, or v isn't 0 to 9.", () -> {
            e.range("week, place", 0, 5, Scenes.BUSY, (x, v) -> x.week(v, 0, STOCK, 1));
            e.range("week, week", 0, 4, Scenes.BUSY, (x, v) -> x.week(0, v, STOCK, 1));
            e.range("week, what", 0, 1, Scenes.BUSY, (x, v) -> x.week(0, 0, v, 1));
            e.range("week, STOCK", 0, 9, Scenes.BUSY, (x, v) -> x.week(0, 0, STOCK, v));
            e.range("week, NEED", 0, 9, Scenes.BUSY, (x, v) -> x.week(1, 2, NEED, v));
        });
    }

    private void route() {
        e.test(13, "A ROUTE: its number.", () -> {
            EmptyBoxes x = new EmptyBoxes();
            e.is("the first", x.route(0, 5, 0, 0), 0);
            e.is("a refused one takes no number", x.route(5, 5, 0, 0), NUMBER);
            e.is("the same once more", x.route(0, 5, 0, 0), 1);
        });
        e.test(13, "cost is COST and 100 times ROOM.", () -> {
            int[][] due = {
                // cost, and what nine boxes come to: those that find ROOM at COST, the others 500
                {0, 4500}, {99, 4500}, {100, 4000}, {199, 99 + 4000}, {250, 100 + 3500}, {900, 0}, {999, 891}};
            for (int[] row : due) {
                EmptyBoxes x = nine(0, 0);
                x.lack(500);
                x.route(0, 1, 0, row[0]);
                e.is("cost " + row[0], x.least(), row[1]);
            }
        });
        e.test(13, "NUMBER: there is no such PLACE (either)", () -> {
            e.range("route, from", 0, 5, Scenes.BUSY, (x, v) -> x.route(v, 3, 0, 0));
            e.range("route, to", 0, 5, Scenes.BUSY, (x, v) -> x.route(3, v, 0, 0));
        });
        e.test(13, "they are the same", () -> {
            for (int place = 0; place <= 5; place++) {
                int same = place;
                e.refused("both " + place, NUMBER, Scenes.BUSY, x -> x.route(same, same, 0, 100));
            }
        });
        e.test(13, "weeks aren't 0 to 2", () ->
                e.range("route, weeks", 0, 2, Scenes.BUSY, (x, v) -> x.route(0, 1, v, 100)));
        e.test(13, "cost not 0 to 999", () ->
                e.range("route, cost", 0, 999, Scenes.BUSY, (x, v) -> x.route(0, 1, 0, v)));
        e.test(13, "FULL.", () -> e.refused("route", FULL, Scenes.FULL, x -> x.route(0, 3, 0, 900)));
        e.test(13, "REFUSALS, of several the first one named", () -> {
            e.refused("no such PLACE, full", NUMBER, Scenes.FULL, x -> x.route(6, 0, 0, 0));
            e.refused("the same, full", NUMBER, Scenes.FULL, x -> x.route(1, 1, 0, 0));
            e.refused("cost 1000, full", NUMBER, Scenes.FULL, x -> x.route(0, 1, 0, 1000));
        });
    }

    private void routeLimits() {
        e.test(13, "ROUTES, 10 at most: from a PLACE to another one, in 0 to 2 WEEKS", () -> {
            EmptyBoxes x = nine(0, 0);
            for (int number = 0; number < 10; number++) {
                e.is("ROUTE " + number, x.route(0, 1, number % 3, 0), number);
            }
            e.is("the 11th", x.route(0, 1, 0, 900), FULL);
            e.is("it moves nothing", x.least(), 900);
            EmptyBoxes y = nine(0, 0);
            for (int number = 0; number < 9; number++) {
                y.route(2, 3, 0, 0);
            }
            e.is("the tenth", y.route(0, 1, 0, 900), 9);
            e.is("it moves nine", y.least(), 0);
            EmptyBoxes z = new EmptyBoxes();
            for (int number = 0; number < 10; number++) {
                z.route(number % 5, 5, 0, 901);
            }
            for (int place = 0; place <= 5; place++) {
                z.week(place, 0, STOCK, 1);
                z.week(place, 4, NEED, 1);
            }
            e.is("with ten of them a box may still stay", z.least(), 0);
            z.week(5, 4, NEED, 7);
            for (int place = 0; place < 5; place++) {
                z.week(place, 4, NEED, 0);
            }
            e.is("and all ten move boxes", z.least(), 5 + 100);
        });
        e.test(13, "COST (0 to 99) for a box, ROOM (0 to 9) for those that leave in one WEEK (each).", () -> {
            EmptyBoxes x = nine(0, 4);
            x.route(0, 1, 0, 101);
            e.is("one in each of five WEEKS", x.least(), 5 + 400);
            x.route(0, 1, 0, 102);
            e.is("two ROUTES of the same PLACES", x.least(), 5 + 8);
        });
    }

    private void lack() {
        e.test(14, "LACK: what it was.", () -> {
            EmptyBoxes x = new EmptyBoxes();
            e.is("lack(0)", x.lack(0), 100);
            e.is("lack(500)", x.lack(500), 0);
            e.is("lack(500) again", x.lack(500), 500);
        });
        e.test(14, "NUMBER: v isn't 0 to 500.", () ->
                e.range("lack(v)", 0, 500, Scenes.BUSY, EmptyBoxes::lack));
        e.test(14, "It COSTS what its moves do, and LACK (0 to 500; 100 at first) for each box that is wanted and not "
                + "had.", () -> {
                    EmptyBoxes x = nine(0, 0);
                    e.is("100 at first", x.least(), 900);
                    x.lack(500);
                    e.is("500", x.least(), 4500);
                    x.lack(0);
                    e.is("0", x.least(), 0);
                    x.route(0, 1, 0, 350);
                    x.lack(60);
                    e.is("three moves, six lacks", x.least(), 3 * 50 + 6 * 60);
                    x.lack(50);
                    e.is("a move for as much as a lack", x.least(), 9 * 50);
                    x.lack(49);
                    e.is("a move for more than a lack", x.least(), 9 * 49);
                });
    }

    private void leastOfWeeks() {
        e.test(15, "A box that is not used stays at its PLACE for the next WEEK (for nothing); one that is used is "
                + "gone.", () -> {
                    EmptyBoxes x = new EmptyBoxes();
                    x.week(0, 0, STOCK, 1);
                    x.week(0, 4, NEED, 1);
                    e.is("it stays from WEEK 0 to 4", x.least(), 0);
                    x.week(0, 2, NEED, 1);
                    e.is("used in one of two WEEKS", x.least(), 100);
                    x.week(0, 0, STOCK, 2);
                    e.is("two of them", x.least(), 0);
                    EmptyBoxes y = new EmptyBoxes();
                    y.week(0, 1, STOCK, 9);
                    y.week(0, 0, NEED, 9);
                    e.is("none comes a WEEK earlier", y.least(), 900);
                    y.week(1, 1, NEED, 9);
                    e.is("nor to another PLACE without a ROUTE", y.least(), 1800);
                    EmptyBoxes z = new EmptyBoxes();
                    for (int week = 0; week < 5; week++) {
                        z.week(5, week, STOCK, 9);
                    }
                    z.week(5, 4, NEED, 9);
                    z.week(0, 4, NEED, 9);
                    z.route(5, 0, 0, 901);
                    e.is("more stay than one WEEK's ROOM", z.least(), 9);
                });
    }

    private void leastOfRoutes() {
        e.test(15, "A FLOW moves boxes by ROUTES (in WEEKS 0 to 4; what would arrive behind WEEK 4 must not leave), "
                + "over several in one WEEK if they take 0, and uses them for NEEDS of the WEEK and PLACE where they "
                + "are.", () -> {
                    for (int weeks = 0; weeks <= 2; weeks++) {
                        for (int from = 0; from <= 4; from++) {
                            EmptyBoxes x = nine(from, 4);
                            x.route(0, 1, weeks, 901);
                            e.is(weeks + " WEEKS, from WEEK " + from, x.least(), from + weeks <= 4 ? 9 : 900);
                        }
                    }
                    EmptyBoxes x = nine(0, 0);
                    x.route(0, 1, 1, 901);
                    e.is("it arrives a WEEK late", x.least(), 900);
                    EmptyBoxes y = nine(0, 1);
                    y.route(1, 0, 0, 900);
                    e.is("no ROUTE goes the other way", y.least(), 900);
                });
        e.test(15, "over several in one WEEK if they take 0", () -> {
            EmptyBoxes x = new EmptyBoxes();
            x.week(0, 4, STOCK, 9);
            x.week(5, 4, NEED, 9);
            for (int place = 0; place < 5; place++) {
                x.route(place, place + 1, 0, 901);
            }
            e.is("over five in WEEK 4", x.least(), 45);
            EmptyBoxes y = nine(0, 4);
            y.route(0, 2, 2, 901);
            y.route(2, 3, 0, 901);
            y.route(3, 1, 2, 901);
            e.is("2, 0 and 2 WEEKS", y.least(), 27);
            EmptyBoxes z = nine(1, 4);
            z.route(0, 2, 2, 901);
            z.route(2, 1, 2, 901);
            e.is("2 and 2 WEEKS from WEEK 1", z.least(), 900);
            EmptyBoxes around = nine(0, 0);
            around.route(0, 2, 0, 900);
            around.route(2, 0, 0, 900);
            e.is("round and round", around.least(), 900);
            around.route(2, 1, 0, 500);
            e.is("and out of it", around.least(), 400);
        });
    }

    private void leastOfAll() {
        e.test(15, "THE LEAST is the least COST of all FLOWS.", () -> {
            EmptyBoxes x = nine(0, 0);
            x.route(0, 1, 0, 440);
            x.route(0, 2, 0, 905);
            x.route(2, 1, 0, 206);
            e.is("the cheaper way first", x.least(), 2 * 11 + 4 * 40 + 300);
            // The box at 0 must leave the near NEED to the box at 2, which has no other.
            EmptyBoxes y = new EmptyBoxes();
            y.week(0, 0, STOCK, 1);
            y.week(2, 0, STOCK, 1);
            y.week(1, 0, NEED, 1);
            y.week(3, 0, NEED, 1);
            y.route(0, 1, 0, 100);
            y.route(0, 3, 0, 190);
            y.route(2, 1, 0, 195);
            y.lack(200);
            e.is("both are had", y.least(), 90 + 95);
            // A box in time for the early NEED may not be given to the late one.
            EmptyBoxes z = new EmptyBoxes();
            z.week(0, 0, STOCK, 1);
            z.week(0, 1, STOCK, 1);
            z.week(1, 0, NEED, 1);
            z.week(0, 1, NEED, 1);
            z.route(0, 1, 0, 101);
            e.is("each in its WEEK", z.least(), 1);
        });
        e.test(15, "THE LEAST.", () -> {
            e.is("nothing there", new EmptyBoxes().least(), 0);
            EmptyBoxes x = new EmptyBoxes();
            for (int i = 0; i < 30; i++) {
                x.week(i % 6, i / 6, NEED, 9);
            }
            x.lack(500);
            e.is("as much as can be", x.least(), 30 * 9 * 500);
            for (int i = 0; i < 30; i++) {
                x.week(i % 6, i / 6, STOCK, 9);
            }
            e.is("all are had", x.least(), 0);
            e.leaves("least()", Scenes.BUSY.get().least(), Scenes.BUSY, EmptyBoxes::least, Scenes.BUSY);
        });
    }

    private void worth() {
        e.test(16, "WORTH of a PLACE and WEEK: by how much THE LEAST would be less, if STOCK there were one more.", () -> {
            EmptyBoxes x = new EmptyBoxes();
            e.is("nothing wanted", x.worth(5, 4), 0);
            x.week(5, 4, NEED, 1);
            e.is("one lacks", x.worth(5, 4), 100);
            e.is("from WEEK 0 on", x.worth(5, 0), 100);
            e.is("at another PLACE", x.worth(0, 4), 0);
            x.week(5, 4, STOCK, 1);
            e.is("none lacks", x.worth(5, 4), 0);
            EmptyBoxes y = nine(0, 4);
            y.week(1, 0, STOCK, 9);
            e.is("STOCK 9, all used", y.worth(1, 0), 0);
            y.week(1, 4, STOCK, 9);
            y.week(1, 3, NEED, 9);
            y.week(1, 2, NEED, 9);
            e.is("STOCK 9 and one more", y.worth(1, 0), 100);
            e.is("STOCK was", y.week(1, 0, STOCK, 9), 9);
            y.lack(500);
            e.is("at most LACK", y.worth(1, 0), 500);
            y.lack(0);
            e.is("LACK 0", y.worth(1, 0), 0);
        });
        e.test(16, "WORTH.", () -> {
            EmptyBoxes x = nine(0, 0);
            x.week(0, 0, STOCK, 0);
            x.route(0, 1, 0, 199);
            e.is("COST 99, LACK 100", x.worth(0, 0), 1);
            x.lack(99);
            e.is("COST 99, LACK 99", x.worth(0, 0), 0);
            x.lack(98);
            e.is("COST 99, LACK 98", x.worth(0, 0), 0);
            x.lack(100);
            x.week(0, 0, STOCK, 1);
            e.is("no ROOM is left", x.worth(0, 0), 0);
            e.is("but at the other PLACE", x.worth(1, 0), 100);
            x.week(1, 0, NEED, 1);
            e.is("a move is spared", x.worth(1, 0), 99);
        });
    }

    private void worthRefusals() {
        e.test(16, "NUMBER: there is no such PLACE, WEEK.", () -> {
            e.range("worth, place", 0, 5, Scenes.BUSY, (x, v) -> x.worth(v, 0));
            e.range("worth, week", 0, 4, Scenes.BUSY, (x, v) -> x.worth(0, v));
            // PLACE 6 of WEEK 0 must not be taken for PLACE 0 of WEEK 1.
            e.is("worth(6, 0)", nine(0, 1).worth(6, 0), NUMBER);
            e.is("worth(7, 0)", nine(0, 1).worth(7, 0), NUMBER);
            e.is("worth(-5, 1)", nine(0, 0).worth(-5, 1), NUMBER);
        });
        e.test(16, "they change nothing", () -> {
            e.leaves("worth(1, 2)", Scenes.BUSY.get().worth(1, 2), Scenes.BUSY, x -> x.worth(1, 2), Scenes.BUSY);
        });
    }
}
