import java.util.function.Supplier;

/** The edges of promises 22 (feed), 25 (giveBack) and 26 (writeOff). */
final class EdgesOfLeases {
    private static final int NUMBER = EmptyBoxes.NUMBER;
    private static final int FULL = EmptyBoxes.FULL;
    private static final int STATE = EmptyBoxes.STATE;
    private static final int IN = 0;
    private static final int OUT = 1;

    private final Edges e;

    EdgesOfLeases(Edges e) {
        this.e = e;
    }

    void run() {
        feed();
        feedFull();
        giveBackAndBill();
        giveBackRefusals();
        room();
        roomOfWeeks();
        writeOff();
        writeOffRefusals();
    }

    private void feed() {
        e.test(22, "n bytes (1 to 8) come to THE TAPE, the lowest of eight first: how many it has.", () -> {
            EmptyBoxes x = new EmptyBoxes();
            e.is("eight bytes", x.feed(0x3736203b35207961L << 8 | 'd', 8), 8);
            e.is("one byte, with others above it", x.feed(0x5858585858585800L | ';', 1), 9);
            e.is("many(7)", x.many(7), 9);
            e.is("'day 5; 6;': NUMBER 6 is at 7", x.read(0), -107);
            for (int n = 1; n <= 8; n++) {
                EmptyBoxes y = new EmptyBoxes();
                e.is("n " + n, y.feed(0x2020202020202020L, n), n);
                e.is("the end", y.feed('d' | 'a' << 8 | 'y' << 16, 3), n + 3);
                e.is("'day' behind " + n + " blanks", y.read(0), -103 - n);
            }
            EmptyBoxes z = new EmptyBoxes();
            e.is("bytes above 127", z.feed(-1L, 8), 8);
            e.is("the first of them", z.read(0), -100);
        });
        e.test(22, "NUMBER", () -> {
            e.range("feed(blanks, n)", 1, 8, Scenes.BUSY, (x, v) -> x.feed(0x2020202020202020L, v));
            e.range("feed(0, n)", 1, 8, Scenes.BUSY, (x, v) -> x.feed(0, v));
        });
    }

    /** THE TAPE has as many bytes: a TEXT, and blanks behind it. */
    private static EmptyBoxes fed(int bytes) {
        EmptyBoxes x = new EmptyBoxes();
        Due.feed(x, "lost 12;" + " ".repeat(bytes - 8));
        return x;
    }

    private void feedFull() {
        e.test(22, "FULL: more than 120.", () -> {
            for (int n = 1; n <= 8; n++) {
                int bytes = n;
                Supplier<EmptyBoxes> one = () -> fed(121 - bytes);
                e.refused("one too many, n " + n, FULL, one, x -> x.feed(0x2020202020202020L, bytes));
                e.is("120, n " + n, fed(120 - n).feed(0x2020202020202020L, n), 120);
            }
            e.refused("120 and one", FULL, Scenes.FULL, x -> x.feed(' ', 1));
        });
        e.test(22, "5 LEASES are read from TEXTS. THE TAPE takes bytes, 120 at most; read() uses it up.", () -> {
            EmptyBoxes x = fed(120);
            e.is("many(7)", x.many(7), 120);
            e.is("FULL", x.feed(' ', 1), FULL);
            e.is("all 120 are read", x.read(0), 1);
            e.is("used up", x.many(7), 0);
            e.is("lost", x.lease(0, 3), 12);
            e.is("there is room again", x.feed(' ', 8), 8);
            e.is("read with a FAULT", x.read(0), -101);
            e.is("used up too", x.many(7), 0);
            Due.feed(x, " ".repeat(119) + "x");
            e.is("the last byte of 120", x.read(0), -219);
            Due.feed(x, " ".repeat(116) + "lost");
            e.is("the end of 120", x.read(0), -220);
        });
        e.test(22, "REFUSALS, of several the first one named", () -> {
            e.refused("n 9, full", NUMBER, Scenes.FULL, x -> x.feed(' ', 9));
            e.refused("n 0, full", NUMBER, Scenes.FULL, x -> x.feed(' ', 0));
            e.refused("n max, full: the sum would wrap", NUMBER, Scenes.FULL, x -> x.feed(' ', Integer.MAX_VALUE));
        });
    }

    /** Boxes under LEASE 0 that all came IN at PLACE 2 on the DAY on which they came. */
    private static EmptyBoxes leased(String text, int boxes, int cameOn) {
        EmptyBoxes x = Scenes.on(cameOn);
        Due.read(x, 0, text);
        for (int box = 0; box < boxes; box++) {
            x.box(box, 0, 0, 0);
            x.word(box, cameOn, 2, IN);
        }
        return x;
    }

    private void giveBackAndBill() {
        e.test(25, "A BOX under a LEASE is GIVEN BACK on a DAY (TODAY) at a PLACE where it is IN (as KNOWN TODAY), "
                + "with WEAR (0 to 9)", () -> {
                    EmptyBoxes x = leased("drop 2 7;drop 5 9;worn 1;", 3, 0);
                    x.word(1, 0, 5, IN);
                    x.word(2, 0, 2, OUT);
                    x.days(1);
                    e.is("WEAR 0, at PLACE 2", x.giveBack(0, 0), 7);
                    e.is("WEAR 9, at PLACE 5 as is KNOWN", x.giveBack(1, 9), 18);
                    e.is("OUT", x.giveBack(2, 0), STATE);
                    x.word(2, 1, 2, IN);
                    e.is("IN as is told TODAY", x.giveBack(2, 0), 7);
                });
        e.test(25, "its BILL: day for each DAY from that on which it came to TODAY, but for the first free ones; and "
                + "drop of the PLACE; and worn times WEAR.", () -> {
                    e.is("the DAY on which it came", leased("day 9;", 1, 5).giveBack(0, 9), 9);
                    int[] due = {50, 40, 30, 20, 10, 0, 0};
                    for (int free = 0; free <= 6; free++) {
                        EmptyBoxes x = leased("free " + free + ";day 10;", 1, 3);
                        x.days(4);
                        e.is("five DAYS, free " + free, x.giveBack(0, 0), due[free]);
                    }
                    EmptyBoxes x = leased("free 999;day 999;drop 2 3;worn 4;", 1, 0);
                    Scenes.goTo(x, 200);
                    e.is("all DAYS are free, drop and worn are not", x.giveBack(0, 5), 23);
                    EmptyBoxes y = leased("day 999;drop 2 999;worn 999;", 1, 0);
                    Scenes.goTo(y, 200);
                    e.is("as much as can be", y.giveBack(0, 9), 999 * 201 + 999 + 999 * 9);
                    e.is("of(0, 6)", y.of(0, 6), 999 * 211);
                });
        e.test(25, "(LEASES read anew count for all BILLS from then on.)", () -> {
            EmptyBoxes x = leased("day 5;", 3, 0);
            e.is("ahead", x.giveBack(0, 0), 5);
            e.is("read anew", Due.read(x, 0, "day 7;"), 1);
            e.is("behind", x.giveBack(1, 0), 7);
            e.is("the BILL that is", x.of(0, 6), 5);
            e.is("read with a FAULT", Due.read(x, 0, "day 8"), -105);
            e.is("not read anew", x.giveBack(2, 0), 7);
            e.is("many(11)", x.many(11), 19);
        });
    }

    private void giveBackRefusals() {
        e.test(25, "A BOX is GIVEN BACK: its BILL.", () -> {
            EmptyBoxes x = leased("day 5;", 1, 0);
            e.is("giveBack(0, 0)", x.giveBack(0, 0), 5);
            e.is("of(0, 5)", x.of(0, 5), 1);
            e.is("of(0, 6)", x.of(0, 6), 5);
            e.is("many(9)", x.many(9), 1);
        });
        e.test(25, "NUMBER: there is no such BOX, or wear isn't 0 to 9", () -> {
            e.range("giveBack, box", 0, Scenes.BUSY_BOXES - 1, Scenes.BUSY, (x, v) -> x.giveBack(v, 0));
            e.is("none at all", new EmptyBoxes().giveBack(0, 0), NUMBER);
            Supplier<EmptyBoxes> one = () -> leased("day 5;", 1, 0);
            e.range("giveBack, wear", 0, 9, one, (x, v) -> x.giveBack(0, v));
        });
        e.test(25, "STATE: it is its LINE's own, GIVEN BACK or WRITTEN OFF, or not IN a PLACE", () -> {
            Supplier<EmptyBoxes> own = Scenes.made(x -> {
                x.read(0);
                x.box(1, 0, 0, -1);
                x.word(0, 0, 2, IN);
            });
            e.refused("its LINE's own, IN a PLACE", STATE, own, x -> x.giveBack(0, 0));
            e.refused("GIVEN BACK", STATE, Scenes.BUSY, x -> x.giveBack(2, 0));
            e.refused("WRITTEN OFF", STATE, Scenes.BUSY, x -> x.giveBack(3, 0));
            e.refused("on the WAY", STATE, Scenes.BUSY, x -> x.giveBack(5, 0));
            e.refused("UNHEARD", STATE, Scenes.BUSY, x -> x.giveBack(6, 0));
            EmptyBoxes x = leased("", 1, 0);
            x.word(0, 0, 0, OUT);
            e.is("on the WAY from PLACE 0", x.giveBack(0, 0), STATE);
        });
        e.test(25, "REFUSALS, of several the first one named", () -> {
            e.refused("wear 10, on the WAY", NUMBER, Scenes.BUSY, x -> x.giveBack(5, 10));
            e.refused("wear -1, GIVEN BACK", NUMBER, Scenes.BUSY, x -> x.giveBack(2, -1));
            Supplier<EmptyBoxes> noRoom = () -> leased("room 2 0;", 1, 0);
            e.refused("wear 10, no room", NUMBER, noRoom, x -> x.giveBack(0, 10));
            Supplier<EmptyBoxes> backThenNoRoom = () -> {
                EmptyBoxes x = leased("", 1, 0);
                x.giveBack(0, 0);
                Due.read(x, 0, "room 2 0;");
                return x;
            };
            e.refused("GIVEN BACK, no room", STATE, backThenNoRoom, x -> x.giveBack(0, 0));
        });
    }

    private void room() {
        e.test(25, "FULL: room of that PLACE.", () -> {
            Supplier<EmptyBoxes> none = () -> leased("room 2 0;day 3;", 2, 0);
            e.refused("room 0", FULL, none, x -> x.giveBack(0, 0));
            Supplier<EmptyBoxes> oneGone = () -> {
                EmptyBoxes x = leased("room 2 1;day 3;", 2, 0);
                x.giveBack(0, 0);
                return x;
            };
            e.refused("room 1, the second", FULL, oneGone, x -> x.giveBack(1, 0));
            e.refused("busy", FULL, Scenes.BUSY, x -> x.giveBack(4, 0));
            EmptyBoxes x = leased("", 24, 0);
            for (int box = 0; box < 24; box++) {
                e.is("room 999 without", x.giveBack(box, 0), 0);
            }
        });
        e.test(25, "Not more than room of a PLACE are GIVEN BACK there under one LEASE in one WEEK of DAYS (DAY by 7).",
                () -> {
                    EmptyBoxes x = leased("room 2 2;", 6, 0);
                    Due.read(x, 1, "room 2 1;");
                    x.box(100, 0, 0, 1);
                    x.word(6, 0, 2, IN);
                    e.is("the first", x.giveBack(0, 0), 0);
                    e.is("the second", x.giveBack(1, 0), 0);
                    e.is("the third", x.giveBack(2, 0), FULL);
                    e.is("under another LEASE", x.giveBack(6, 0), 0);
                    x.word(2, 0, 3, IN);
                    e.is("at another PLACE", x.giveBack(2, 0), 0);
                    Due.read(x, 0, "room 2 3;");
                    e.is("by a LEASE read anew", x.giveBack(3, 0), 0);
                    e.is("and no more", x.giveBack(4, 0), FULL);
                    Due.read(x, 0, "room 2 1;");
                    e.is("more are there than may be", x.giveBack(4, 0), FULL);
                    x.days(7);
                    e.is("a WEEK later", x.giveBack(4, 0), 0);
                    e.is("and no more", x.giveBack(5, 0), FULL);
                });
    }

    private void roomOfWeeks() {
        e.test(25, "in one WEEK of DAYS (DAY by 7)", () -> {
            int[][] due = {
                // a DAY, a DAY, and whether both are of one WEEK
                {0, 6, 1}, {0, 7, 0}, {6, 7, 0}, {7, 13, 1}, {13, 14, 0}, {190, 195, 1}, {195, 196, 0}, {196, 200, 1}};
            for (int[] row : due) {
                EmptyBoxes x = leased("room 2 1;", 2, 0);
                Scenes.goTo(x, row[0]);
                e.is("on " + row[0], x.giveBack(0, 0), 0);
                Scenes.goTo(x, row[1]);
                e.is("and on " + row[1], x.giveBack(1, 0), row[2] == 1 ? FULL : 0);
            }
            EmptyBoxes y = leased("room 2 1;", 1, 0);
            y.box(50, 0, 0, 0);
            y.writeOff(1);
            e.is("one WRITTEN OFF takes no room", y.giveBack(0, 0), 0);
        });
    }

    private void writeOff() {
        e.test(26, "A BOX is WRITTEN OFF: its BILL.", () -> {
            EmptyBoxes x = new EmptyBoxes();
            Due.read(x, 0, "lost 999;");
            x.box(1, 0, 0, 0);
            e.is("writeOff(0)", x.writeOff(0), 999);
            e.is("of(0, 5)", x.of(0, 5), 2);
            e.is("of(0, 6)", x.of(0, 6), 999);
            e.is("many(10)", x.many(10), 1);
            e.is("many(9)", x.many(9), 0);
        });
        e.test(26, "It may be WRITTEN OFF: its BILL is day likewise, and lost.", () -> {
            int[] due = {50, 40, 30, 20, 10, 0, 0};
            for (int free = 0; free <= 6; free++) {
                EmptyBoxes x = Scenes.on(3);
                Due.read(x, 2, "free " + free + ";day 10;lost 7;drop 0 500;worn 60;");
                x.box(1, 0, 0, 2);
                x.days(4);
                e.is("five DAYS, free " + free, x.writeOff(0), due[free] + 7);
            }
            EmptyBoxes y = new EmptyBoxes();
            Due.read(y, 2, "day 999;lost 999;");
            y.box(1, 0, 0, 2);
            Scenes.goTo(y, 200);
            e.is("as much as can be", y.writeOff(0), 999 * 202);
        });
        e.test(26, "(LEASES read anew count for all BILLS from then on.)", () -> {
            EmptyBoxes x = new EmptyBoxes();
            Due.read(x, 0, "lost 5;");
            x.box(1, 0, 0, 0);
            Due.read(x, 0, "day 2;");
            e.is("day and no lost", x.writeOff(0), 2);
        });
    }

    private void writeOffRefusals() {
        e.test(26, "NUMBER: there is no such BOX", () -> {
            e.range("writeOff(box)", 0, Scenes.BUSY_BOXES - 1, Scenes.BUSY, EmptyBoxes::writeOff);
            e.is("none at all", new EmptyBoxes().writeOff(0), NUMBER);
        });
        e.test(26, "STATE: it is its LINE's own, GIVEN BACK or WRITTEN OFF, or it isn't LATE nor UNHEARD TODAY.", () -> {
            Supplier<EmptyBoxes> own = Scenes.made(x -> {
                x.read(0);
                x.box(1, 0, 0, -1);
            });
            e.refused("its LINE's own, UNHEARD", STATE, own, x -> x.writeOff(0));
            Supplier<EmptyBoxes> ownLate = Scenes.made(x -> {
                x.box(1, 0, 0, -1);
                x.word(0, 0, 0, OUT);
                x.days(30);
            });
            e.refused("its LINE's own, LATE", STATE, ownLate, x -> x.writeOff(0));
            e.refused("GIVEN BACK", STATE, Scenes.BUSY, x -> x.writeOff(2));
            e.refused("WRITTEN OFF", STATE, Scenes.BUSY, x -> x.writeOff(3));
            e.refused("IN a PLACE", STATE, Scenes.BUSY, x -> x.writeOff(4));
            Supplier<EmptyBoxes> away20 = Scenes.made(x -> {
                x.read(0);
                x.box(1, 0, 0, 0);
                x.word(0, 0, 0, OUT);
                x.days(20);
            });
            e.refused("on the WAY for 20 DAYS", STATE, away20, x -> x.writeOff(0));
            EmptyBoxes x = away20.get();
            x.days(1);
            e.is("LATE", x.writeOff(0), 0);
            e.is("LATE and busy", Scenes.BUSY.get().writeOff(5), 28 * 4 + 60);
            e.is("UNHEARD and busy", Scenes.BUSY.get().writeOff(6), 26 * 10 + 900);
        });
        e.test(26, "REFUSALS, of several the first one named", () -> {
            e.is("writeOff(-1) without BOXES", new EmptyBoxes().writeOff(-1), NUMBER);
            e.is("writeOff(24) of 24", Scenes.FULL.get().writeOff(24), NUMBER);
        });
    }
}
