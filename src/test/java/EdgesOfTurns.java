/** The edges of promises 17 (turn) to 21 (clear). */
final class EdgesOfTurns {
    private static final int NUMBER = EmptyBoxes.NUMBER;
    private static final int FULL = EmptyBoxes.FULL;
    private static final int NONE = EmptyBoxes.NONE;

    private final Edges e;

    EdgesOfTurns(Edges e) {
        this.e = e;
    }

    void run() {
        turn();
        turnRefusals();
        leave();
        suitsLinesAndKinds();
        suitsDaysAndPlaces();
        suitsRefusals();
        matchPairs();
        matchOfLikeOnes();
        matchAsked();
        clear();
    }

    private void turn() {
        e.test(17, "An OFFER (want false), or a WANT: its number.", () -> {
            EmptyBoxes x = new EmptyBoxes();
            e.is("the first OFFER", x.turn(false, 0, 0, 0, 0, 0), 0);
            e.is("the first WANT", x.turn(true, 0, 0, 0, 0, 0), 0);
            e.is("a refused one takes no number", x.turn(false, 0, 0, 0, 1, 0), NUMBER);
            e.is("the second OFFER", x.turn(false, 0, 0, 0, 0, 0), 1);
            e.is("OFFERS", x.many(3), 2);
            e.is("WANTS", x.many(4), 1);
        });
        e.test(17, "4 STREET TURNS. OFFERS, 7 at most: a PLACE, a LINE, a KIND, a first and a last DAY (0 to 200).", () -> {
            EmptyBoxes x = new EmptyBoxes();
            for (int number = 0; number < 7; number++) {
                e.is("OFFER " + number, x.turn(false, 5, 3, 2, 0, 200), number);
            }
            e.is("the eighth", x.turn(false, 5, 3, 2, 0, 200), FULL);
            e.is("many(3)", x.many(3), 7);
            e.is("WANTS have a row of their own", x.turn(true, 5, 3, 2, 200, 200), 0);
        });
        e.test(17, "WANTS, 7 at most, likewise.", () -> {
            EmptyBoxes x = new EmptyBoxes();
            for (int number = 0; number < 7; number++) {
                e.is("WANT " + number, x.turn(true, 5, 3, 2, 0, 200), number);
            }
            e.is("the eighth", x.turn(true, 5, 3, 2, 0, 200), FULL);
            e.is("many(4)", x.many(4), 7);
            e.is("OFFERS have a row of their own", x.turn(false, 5, 3, 2, 200, 200), 0);
        });
    }

    private void turnRefusals() {
        for (boolean want : new boolean[] {false, true}) {
            String call = "turn(" + want + "), ";
            e.test(17, "NUMBER: there is no such PLACE, LINE, KIND, DAY (either)", () -> {
                e.range(call + "place", 0, 5, Scenes.BUSY, (x, v) -> x.turn(want, v, 0, 0, 5, 5));
                e.range(call + "line", 0, 3, Scenes.BUSY, (x, v) -> x.turn(want, 0, v, 0, 5, 5));
                e.range(call + "kind", 0, 2, Scenes.BUSY, (x, v) -> x.turn(want, 0, 0, v, 5, 5));
                e.range(call + "first", 0, 200, Scenes.BUSY, (x, v) -> x.turn(want, 0, 0, 0, v, 200));
                e.range(call + "last", 0, 200, Scenes.BUSY, (x, v) -> x.turn(want, 0, 0, 0, 0, v));
                e.range(call + "both", 0, 200, Scenes.BUSY, (x, v) -> x.turn(want, 0, 0, 0, v, v));
            });
            e.test(17, "or last is ahead of first", () -> {
                e.refused(call + "200 to 199", NUMBER, Scenes.BUSY, x -> x.turn(want, 0, 0, 0, 200, 199));
                e.refused(call + "1 to 0", NUMBER, Scenes.BUSY, x -> x.turn(want, 0, 0, 0, 1, 0));
                e.is(call + "1 to 1", new EmptyBoxes().turn(want, 0, 0, 0, 1, 1), 0);
            });
            e.test(17, "FULL.", () -> e.refused(call, FULL, Scenes.FULL, x -> x.turn(want, 0, 0, 0, 0, 0)));
            e.test(17, "REFUSALS, of several the first one named", () -> {
                e.refused(call + "no such PLACE, full", NUMBER, Scenes.FULL, x -> x.turn(want, 6, 0, 0, 0, 0));
                e.refused(call + "1 to 0, full", NUMBER, Scenes.FULL, x -> x.turn(want, 0, 0, 0, 1, 0));
            });
        }
    }

    private void leave() {
        e.test(18, "LINES have LEAVE of one another, or not (both ways): 1 if that is new, else 0.", () -> {
            EmptyBoxes x = new EmptyBoxes();
            e.is("not, at first", x.leave(0, 3, false), 0);
            e.is("new", x.leave(0, 3, true), 1);
            e.is("not new", x.leave(0, 3, true), 0);
            e.is("both ways", x.leave(3, 0, true), 0);
            for (int line = 0; line < 4; line++) {
                for (int other = 0; other < line; other++) {
                    e.is(line + " and " + other, x.leave(line, other, false), line == 3 && other == 0 ? 1 : 0);
                }
            }
            e.is("not, already", x.leave(0, 3, false), 0);
        });
        e.test(18, "NUMBER: there is no such LINE (either)", () -> {
            for (boolean is : new boolean[] {false, true}) {
                e.range("leave, line, " + is, 0, 3, Scenes.BUSY, (x, v) -> x.leave(v, 2, is));
                e.range("leave, other, " + is, 0, 3, Scenes.BUSY, (x, v) -> x.leave(2, v, is));
            }
        });
        e.test(18, "or they are the same.", () -> {
            for (int line = 0; line < 4; line++) {
                int same = line;
                e.refused("both " + line, NUMBER, Scenes.BUSY, x -> x.leave(same, same, true));
                e.refused("both " + line, NUMBER, Scenes.BUSY, x -> x.leave(same, same, false));
            }
        });
    }

    /** Whether an OFFER at PLACE 0, of LINE 0 and KIND 0, of DAYS 10 to 20, suits a WANT. */
    private static int suits(EmptyBoxes x, int place, int line, int kind, int first, int last) {
        x.clear();
        x.turn(false, 0, 0, 0, 10, 20);
        x.turn(true, place, line, kind, first, last);
        return x.suits(0, 0);
    }

    private void suitsLinesAndKinds() {
        e.test(19, "An OFFER SUITS a WANT if the KINDS are the same", () -> {
            for (int kind = 0; kind < 3; kind++) {
                e.is("KIND " + kind, suits(new EmptyBoxes(), 0, 0, kind, 10, 20), kind == 0 ? 1 : 0);
            }
        });
        e.test(19, "the LINES are the same or have LEAVE (of one to the other, told)", () -> {
            EmptyBoxes x = new EmptyBoxes();
            e.is("LINE 3 without", suits(x, 0, 3, 0, 10, 20), 0);
            x.leave(3, 2, true);
            x.leave(0, 2, true);
            e.is("not by way of a third", suits(x, 0, 3, 0, 10, 20), 0);
            x.leave(3, 0, true);
            e.is("LINE 3 with", suits(x, 0, 3, 0, 10, 20), 1);
            x.leave(0, 3, false);
            e.is("LINE 3 no more", suits(x, 0, 3, 0, 10, 20), 0);
            e.is("of the same LINE", suits(x, 0, 0, 0, 10, 20), 1);
        });
    }

    private void suitsDaysAndPlaces() {
        e.test(19, "some DAY is in both spans", () -> {
            int[][] due = {
                {0, 9, 0}, {0, 10, 1}, {20, 200, 1}, {21, 200, 0}, {0, 200, 1}, {12, 13, 1}, {10, 20, 1}, {10, 10, 1},
                {20, 20, 1}, {9, 9, 0}, {21, 21, 0}, {0, 0, 0}, {200, 200, 0}};
            for (int[] row : due) {
                e.is(row[0] + " to " + row[1], suits(new EmptyBoxes(), 0, 0, 0, row[0], row[1]), row[2]);
            }
        });
        e.test(19, "and the PLACES are the same or have a ROUTE between them (either way).", () -> {
            EmptyBoxes x = new EmptyBoxes();
            x.route(0, 1, 0, 900);
            x.route(1, 5, 0, 900);
            x.route(4, 5, 0, 900);
            e.is("no ROUTE", suits(x, 5, 0, 0, 10, 20), 0);
            e.is("by way of a third", suits(x, 5, 0, 0, 10, 20), 0);
            e.is("from the OFFER", suits(x, 1, 0, 0, 10, 20), 1);
            x.route(3, 0, 2, 0);
            e.is("to the OFFER, without ROOM", suits(x, 3, 0, 0, 10, 20), 1);
            e.is("the same", suits(x, 0, 0, 0, 10, 20), 1);
            e.is("a ROUTE to the OFFER alone", suits(x, 4, 0, 0, 10, 20), 0);
            EmptyBoxes y = new EmptyBoxes();
            y.route(0, 1, 0, 900);
            y.route(2, 3, 0, 900);
            y.route(4, 5, 0, 900);
            for (int place = 1; place <= 5; place++) {
                e.is("a ROUTE from the OFFER, PLACE " + place, suits(y, place, 0, 0, 10, 20), place == 1 ? 1 : 0);
            }
        });
    }

    private void suitsRefusals() {
        e.test(19, "Whether an OFFER SUITS a WANT: 1, 0.", () -> {
            EmptyBoxes x = Scenes.BUSY.get();
            e.is("suits(0, 0)", x.suits(0, 0), 1);
            e.is("suits(1, 0)", x.suits(1, 0), 0);
        });
        e.test(19, "NUMBER: there is no such OFFER, WANT.", () -> {
            e.range("suits, offer", 0, 1, Scenes.BUSY, (x, v) -> x.suits(v, 0));
            e.range("suits, want", 0, 0, Scenes.BUSY, (x, v) -> x.suits(0, v));
            e.range("suits, offer of seven", 0, 6, Scenes.FULL, (x, v) -> x.suits(v, 6));
            e.range("suits, want of seven", 0, 6, Scenes.FULL, (x, v) -> x.suits(6, v));
            EmptyBoxes x = new EmptyBoxes();
            e.is("neither", x.suits(0, 0), NUMBER);
            x.turn(true, 0, 0, 0, 0, 0);
            e.is("a WANT alone", x.suits(0, 0), NUMBER);
            x.clear();
            x.turn(false, 0, 0, 0, 0, 0);
            e.is("an OFFER alone", x.suits(0, 0), NUMBER);
        });
    }

    /** OFFERS, then WANTS, each of a first DAY up to DAY 200. */
    private static EmptyBoxes turns(int[] offers, int[] wants) {
        EmptyBoxes x = new EmptyBoxes();
        for (int first : offers) {
            x.turn(false, 0, 0, 0, first, 200);
        }
        for (int first : wants) {
            x.turn(true, 0, 0, 0, first, 200);
        }
        return x;
    }

    private void matchIs(String of, EmptyBoxes x, int pairs, int gap, int... wants) {
        e.is(of + ", match(0)", x.match(0), pairs);
        e.is(of + ", match(1)", x.match(1), gap);
        for (int offer = 0; offer < wants.length; offer++) {
            e.is(of + ", match(" + (10 + offer) + ")", x.match(10 + offer), wants[offer]);
        }
    }

    private void matchPairs() {
        e.test(20, "THE MATCH gives OFFERS WANTS that they SUIT, each one at most: as many as can be", () -> {
            matchIs("nothing", new EmptyBoxes(), 0, 0);
            matchIs("OFFERS alone", turns(new int[] {1, 2}, new int[0]), 0, 0, NONE, NONE);
            matchIs("WANTS alone", turns(new int[0], new int[] {1, 2}), 0, 0);
            matchIs("more WANTS", turns(new int[] {5}, new int[] {9, 5, 5}), 1, 0, 1);
            matchIs("more OFFERS", turns(new int[] {9, 5, 5}, new int[] {5}), 1, 0, NONE, 0, NONE);
            EmptyBoxes x = new EmptyBoxes();
            x.turn(false, 0, 0, 0, 0, 200);
            x.turn(false, 0, 0, 0, 0, 0);
            x.turn(true, 0, 0, 0, 0, 200);
            x.turn(true, 0, 0, 0, 200, 200);
            matchIs("two pairs with a GAP of 200, not one without", x, 2, 200, 1, 0);
            EmptyBoxes y = new EmptyBoxes();
            y.turn(false, 0, 0, 0, 0, 200);
            y.turn(true, 0, 0, 1, 0, 200);
            matchIs("none that suits", y, 0, 0, NONE);
            EmptyBoxes z = new EmptyBoxes();
            for (int kind : new int[] {0, 1, 0, 1, 0}) {
                z.turn(false, 0, 0, kind, 0, 200);
            }
            for (int first : new int[] {0, 0, 0}) {
                z.turn(true, 0, 0, 0, first, 200);
            }
            matchIs("OFFERS without WANTS in the midst", z, 3, 0, 0, NONE, 1, NONE, 2);
        });
        e.test(20, "of several the one with the least GAP: for each pair how many DAYS the later one of the first DAYS "
                + "is behind the earlier one, together", () -> {
                    matchIs("the WANT later", turns(new int[] {3}, new int[] {10}), 1, 7, 0);
                    matchIs("the OFFER later", turns(new int[] {10}, new int[] {3}), 1, 7, 0);
                    matchIs("the least", turns(new int[] {10, 20}, new int[] {21, 12}), 2, 3, 1, 0);
                    matchIs("together", turns(new int[] {0, 100}, new int[] {99, 200, 110}), 2, 109, 0, 2);
                    matchIs("as much as can be", turns(new int[] {0, 0, 0, 0, 0, 0, 0},
                            new int[] {200, 200, 200, 200, 200, 200, 200}), 7, 1400, 0, 1, 2, 3, 4, 5, 6);
                });
    }

    private void matchOfLikeOnes() {
        e.test(20, "of several the one in which the first OFFER for which they are unlike has the lesser WANT (none "
                + "stands behind all).", () -> {
                    matchIs("all alike", turns(new int[] {5, 5, 5}, new int[] {5, 5, 5}), 3, 0, 0, 1, 2);
                    matchIs("none behind all", turns(new int[] {5, 5, 5}, new int[] {5, 5}), 2, 0, 0, 1, NONE);
                    matchIs("the lesser first", turns(new int[] {0, 0}, new int[] {10, 10, 3}), 2, 13, 0, 2);
                    // Either way the GAPS are 25 together.
                    matchIs("the lesser WANT of the first OFFER", turns(new int[] {0, 5}, new int[] {20, 10}),
                            2, 25, 0, 1);
                    matchIs("seven of each", turns(new int[] {1, 1, 1, 1, 1, 1, 1}, new int[] {1, 1, 1, 1, 1, 1, 1}),
                            7, 0, 0, 1, 2, 3, 4, 5, 6);
                    // OFFER 0 may have WANT 1 alone or none at all: a WANT comes ahead of none.
                    EmptyBoxes x = new EmptyBoxes();
                    x.turn(false, 0, 0, 0, 5, 5);
                    x.turn(false, 0, 0, 0, 5, 9);
                    x.turn(true, 0, 0, 1, 5, 5);
                    x.turn(true, 0, 0, 0, 5, 9);
                    matchIs("a WANT ahead of none", x, 1, 0, 1, NONE);
                });
    }

    private void matchAsked() {
        e.test(20, "Of THE MATCH: what = 0 how many pairs, 1 GAP, 10 + i the WANT of OFFER i (NONE).", () -> {
            matchIs("busy", Scenes.BUSY.get(), 1, 5, 0, NONE);
            EmptyBoxes x = turns(new int[] {5}, new int[] {5});
            matchIs("ahead of another WANT", x, 1, 0, 0);
            x.turn(false, 0, 0, 0, 7, 9);
            x.turn(true, 0, 0, 0, 9, 9);
            matchIs("behind it", x, 2, 2, 0, 1);
            e.refused("match(11)", NONE, Scenes.BUSY, y -> y.match(11));
        });
        e.test(20, "NUMBER: another what", () -> {
            for (int what : new int[] {-1, 2, 9, -10, 100, 256, 257, 266, 65536 + 10, Integer.MIN_VALUE,
                Integer.MIN_VALUE + 10, Integer.MAX_VALUE}) {
                e.refused("match(" + what + ")", NUMBER, Scenes.BUSY, x -> x.match(what));
                e.is("match(" + what + ") of seven", Scenes.FULL.get().match(what), NUMBER);
            }
            for (int what = -20; what <= 40; what++) {
                boolean told = what == 0 || what == 1 || what >= 10 && what <= 16;
                e.is("match(" + what + ") of seven", (Scenes.FULL.get().match(what) == NUMBER) != told);
            }
        });
        e.test(20, "no such OFFER.", () -> {
            e.refused("match(12)", NUMBER, Scenes.BUSY, x -> x.match(12));
            e.refused("match(17)", NUMBER, Scenes.FULL, x -> x.match(17));
            e.is("match(10) without OFFERS", turns(new int[0], new int[] {5}).match(10), NUMBER);
        });
    }

    private void clear() {
        e.test(21, "All OFFERS and WANTS go: how many there were.", () -> {
            e.is("none", new EmptyBoxes().clear(), 0);
            EmptyBoxes x = Scenes.FULL.get();
            e.is("fourteen", x.clear(), 14);
            e.is("OFFERS", x.many(3), 0);
            e.is("WANTS", x.many(4), 0);
            e.is("again", x.clear(), 0);
            e.is("ROUTES stay", x.many(2), 10);
            e.is("match(0)", x.match(0), 0);
            e.is("match(1)", x.match(1), 0);
            e.is("match(10)", x.match(10), NUMBER);
            e.is("suits(0, 0)", x.suits(0, 0), NUMBER);
            for (int number = 0; number < 7; number++) {
                e.is("an OFFER again", x.turn(false, 0, 0, 0, 0, 0), number);
                e.is("a WANT again", x.turn(true, 0, 0, 1, 0, 0), number);
            }
            e.is("none of the old ones", x.match(0), 0);
            EmptyBoxes y = Scenes.BUSY.get();
            y.clear();
            e.is("LEAVE stays", y.leave(0, 1, true), 0);
            EmptyBoxes z = turns(new int[] {0, 1, 2}, new int[] {0, 1, 2});
            matchIs("three pairs", z, 3, 0, 0, 1, 2);
            z.clear();
            z.turn(false, 0, 0, 0, 0, 200);
            z.turn(true, 0, 0, 0, 50, 200);
            z.turn(true, 0, 0, 0, 40, 200);
            matchIs("nothing is left of them", z, 1, 40, 1);
            EmptyBoxes last = turns(new int[] {5, 5}, new int[] {5});
            matchIs("one pair of two OFFERS", last, 1, 0, 0, NONE);
            last.clear();
            last.turn(false, 0, 0, 0, 0, 200);
            last.turn(true, 0, 0, 0, 40, 200);
            matchIs("nor of that one", last, 1, 40, 0);
        });
    }
}
