/** The edges of promises 23 (read) and 24 (lease). */
final class EdgesOfTexts {
    private static final int NUMBER = EmptyBoxes.NUMBER;
    private static final int NONE = EmptyBoxes.NONE;
    /** All sixteen CLAUSES, in 119 bytes. */
    private static final String ALL = "free0;day1;worn2;lost3;drop0 1;drop1 2;drop2 3;drop3 4;drop4 5;drop5 6;"
            + "room0 0;room1 1;room2 2;room3 3;room4 4;room5 5;";

    private final Edges e;

    EdgesOfTexts(Edges e) {
        this.e = e;
    }

    void run() {
        clauses();
        numbersAndPlaces();
        onceAtMost();
        rows();
        faultsOfParts();
        faultsOfTheEnd();
        read();
        readRefusals();
        withoutClauses();
        lease();
    }

    /** How many CLAUSES a TEXT has. */
    private void text(String text, int clauses) {
        e.is("'" + text + "'", Due.read(new EmptyBoxes(), 0, text), clauses);
    }

    private void fault(String text, int place) {
        EmptyBoxes x = new EmptyBoxes();
        e.is("'" + text + "'", Due.read(x, 0, text), -100 - place);
        e.is("'" + text + "' leaves the LEASE unread", x.lease(0, 0), NONE);
        e.is("'" + text + "' is used up", x.many(7), 0);
    }

    private void clauses() {
        e.test(23, "TEXT: { CLAUSE ; }: free N | day N | drop P N | room P N | worn N | lost N.", () -> {
            text("", 0);
            text(" ", 0);
            text("free 1;", 1);
            text("day 1;", 1);
            text("drop 1 1;", 1);
            text("room 1 1;", 1);
            text("worn 1;", 1);
            text("lost 1;", 1);
            text("lost 1;worn 2;room 3 4;drop 5 6;day 7;free 8;", 6);
            text(ALL, 16);
            text(ALL + " ", 16);
            fault(";", 0);
            fault("day 1;;", 6);
            fault("day 1,", 5);
            fault("{day 1;}", 0);
            fault("day 1 free 2;", 6);
            fault("drop 1;", 6);
            fault("free 1 2;", 7);
            fault("free;", 4);
        });
        e.test(23, ": how many CLAUSES", () -> {
            EmptyBoxes x = new EmptyBoxes();
            e.is("none", x.read(0), 0);
            e.is("three", Due.read(x, 0, "day 1;drop 0 1;drop 5 1;"), 3);
            e.is("one, behind three", Due.read(x, 0, "day 1;"), 1);
        });
    }

    private void numbersAndPlaces() {
        e.test(23, "N: 0 to 999; P: a PLACE.", () -> {
            String[] words = {"free ", "day ", "worn ", "lost "};
            for (int what = 0; what < 4; what++) {
                for (int n : new int[] {0, 1, 9, 10, 99, 100, 999}) {
                    EmptyBoxes x = new EmptyBoxes();
                    e.is(words[what] + n, Due.read(x, 0, words[what] + n + ";"), 1);
                    e.is(words[what] + n, x.lease(0, what), n);
                }
                fault(words[what] + "1000;", words[what].length());
                fault(words[what] + "-1;", words[what].length());
            }
            for (int p = 0; p < 6; p++) {
                EmptyBoxes x = new EmptyBoxes();
                e.is("P " + p, Due.read(x, 0, "drop " + p + " 0;room " + p + " 999;"), 2);
                e.is("drop " + p, x.lease(0, 10 + p), 0);
                e.is("room " + p, x.lease(0, 20 + p), 999);
                e.is("P " + p, Due.read(x, 0, "drop " + p + " 999;room " + p + " 0;"), 2);
                e.is("drop " + p, x.lease(0, 10 + p), 999);
                e.is("room " + p, x.lease(0, 20 + p), 0);
            }
            fault("drop 6 1;", 5);
            fault("room 6 1;", 5);
            fault("drop 10 1;", 5);
            fault("room 999 1;", 5);
            fault("drop 1000 1;", 5);
            fault("room -1 1;", 5);
            fault("drop 0 1000;", 7);
        });
    }

    private void onceAtMost() {
        e.test(23, "Each CLAUSE once at most, of drop and room once for each P.", () -> {
            fault("free 1;free 1;", 7);
            fault("day 1;day 2;", 6);
            fault("worn 0;worn 0;", 7);
            fault("lost 1;day 1;lost 1;", 13);
            for (int p = 0; p < 6; p++) {
                fault("drop " + p + " 0;drop " + p + " 0;", 14);
                fault("room " + p + " 0;room " + p + " 0;", 14);
                text("drop " + p + " 1;room " + p + " 1;", 2);
            }
            text("drop 0 1;drop 1 1;drop 2 1;drop 3 1;drop 4 1;drop 5 1;", 6);
            EmptyBoxes x = new EmptyBoxes();
            e.is("a TEXT", Due.read(x, 0, "day 1;"), 1);
            e.is("the same in the next TEXT", Due.read(x, 0, "day 2;"), 1);
            e.is("and of another LEASE", Due.read(x, 1, "day 3;"), 1);
        });
        e.test(23, "(one that is there already: at its WORD, of drop and room at P)", () -> {
            fault("  free 1;  free 1;", 11);
            fault("free 1;free", 7);
            fault("free 1;free x", 7);
            fault("drop 4 1;drop  4 1;", 15);
            fault("room 4 1;room 4", 14);
            fault("room 4 1;room", 13);
            fault("room 4 1;room ;", 14);
            fault("room 4 1;room 004 1;", 14);
            fault("drop 0 1;drop 1 1;drop 2 1;drop 3 1;drop 4 1;drop 5 1;drop 3 1;", 59);
            fault(ALL + "x", 119);
            fault(ALL + ";", 119);
            fault(ALL + "1", 119);
        });
    }

    private void rows() {
        e.test(23, "WORDS are rows of letters a to z, NUMBERS rows of digits (3 at most), as long as they go; blanks "
                + "(32) between.", () -> {
                    text("day10;", 1);
                    text("drop1 10;", 1);
                    text("  day   10  ;  ", 1);
                    text("day 010;", 1);
                    text("day 000;", 1);
                    fault("day 0010;", 4);
                    fault("day 1000", 4);
                    fault("day 1 0;", 6);
                    fault("da y 1;", 0);
                    fault("days 1;", 0);
                    fault("dayz 1;", 0);
                    fault("daya 1;", 0);
                    fault("zday 1;", 0);
                    fault("day z;", 4);
                    text("day 909;", 1);
                    fault("dayday 1;", 0);
                    fault("dayfree 1;", 0);
                    fault("drop12;", 4);
                    fault("day 1free 1;", 5);
                    fault("Day 1;", 0);
                    fault("dAy 1;", 0);
                    fault("day\t1;", 3);
                    fault("day\n1;", 3);
                    fault("day_1;", 3);
                    fault("day" + (char) 0 + "1;", 3);
                    fault("day" + (char) 160 + "1;", 3);
                    // The bytes next to a and z, to 0 and 9, and those that would wrap to a letter or a digit.
                    fault("`", 0);
                    fault("{", 0);
                    fault("day /;", 4);
                    fault("day :;", 4);
                    fault((char) ('d' + 128) + "ay 1;", 0);
                    fault("day " + (char) ('1' + 128) + ";", 4);
                    fault("day 1" + (char) (';' + 128), 5);
                });
    }

    private void faultsOfParts() {
        e.test(23, "FAULT: the place (from 0) of the first byte of the first WORD, NUMBER or other byte with which no "
                + "TEXT goes on", () -> {
                    fault("x", 0);
                    fault("xday 1;", 0);
                    fault("   xyz 1;", 3);
                    fault("7;", 0);
                    fault("   777;", 3);
                    fault("day 1;xyz 2;", 6);
                    fault("day 1; 2;", 7);
                    fault("day x1;", 4);
                    fault("day  day 1;", 5);
                    fault("day ;", 4);
                    fault("day 1 2;", 6);
                    fault("day 1 x;", 6);
                    fault("drop x 1;", 5);
                    fault("drop 1 x;", 7);
                    fault("drop 1 2 3;", 9);
                    fault("drop drop 1 1;", 5);
                    fault("room ; 1;", 5);
                    // The first of several.
                    fault("x y z", 0);
                    fault("day 1000;free 1000;", 4);
                    fault("drop 6 1000;", 5);
                });
    }

    private void faultsOfTheEnd() {
        e.test(23, "or the end (how many bytes there are), if more must come.", () -> {
            fault("day", 3);
            fault("day ", 4);
            fault("day 1", 5);
            fault("day 1  ", 7);
            fault("drop", 4);
            fault("drop 5", 6);
            fault("drop 5 ", 7);
            fault("drop 5 1", 8);
            fault("day 1;free", 10);
            fault("free 1; day 1", 13);
            // No TEXT begins with these, whatever comes behind.
            fault("d", 0);
            fault("da", 0);
            fault("day 1;fre", 6);
        });
    }

    private void read() {
        e.test(23, "THE TAPE is the TEXT of a LEASE", () -> {
            for (int lease = 0; lease < 3; lease++) {
                EmptyBoxes x = new EmptyBoxes();
                e.is("read(" + lease + ")", Due.read(x, lease, "day 77;"), 1);
                for (int other = 0; other < 3; other++) {
                    e.is("day of LEASE " + other, x.lease(other, 1), other == lease ? 77 : NONE);
                }
                e.is("many(5)", x.many(5), 1);
            }
        });
        e.test(23, "-100 less its FAULT (the LEASE stays as it was).", () -> {
            e.leaves("a FAULT late in the TEXT", -111, () -> {
                EmptyBoxes x = Scenes.BUSY_WITHOUT_TAPE.get();
                Due.feed(x, "day 1;free 1000;");
                return x;
            }, x -> x.read(1), Scenes.BUSY_WITHOUT_TAPE);
            EmptyBoxes x = new EmptyBoxes();
            e.is("a TEXT", Due.read(x, 1, ALL), 16);
            e.is("a FAULT", Due.read(x, 1, "day 9;drop 0 9;room 0 9;x"), -124);
            int[] whats = {0, 1, 2, 3, 10, 15, 20, 25};
            int[] due = {0, 1, 2, 3, 1, 6, 0, 5};
            for (int i = 0; i < whats.length; i++) {
                e.is("lease(1, " + whats[i] + ")", x.lease(1, whats[i]), due[i]);
            }
        });
    }

    private void readRefusals() {
        e.test(23, "NUMBER.", () -> {
            for (int lease : Edges.outside(0, 2)) {
                e.leaves("read(" + lease + ")", NUMBER, Scenes.BUSY, x -> x.read(lease), Scenes.BUSY_WITHOUT_TAPE);
            }
            e.is("read(0)", Scenes.BUSY.get().read(0), 2);
            e.is("read(2)", Scenes.BUSY.get().read(2), 2);
        });
        e.test(23, "they change nothing (but that THE TAPE is used up)", () -> {
            EmptyBoxes x = new EmptyBoxes();
            Due.feed(x, "day 5;");
            e.is("read(3)", x.read(3), NUMBER);
            e.is("many(7)", x.many(7), 0);
            e.is("what comes next begins anew", Due.read(x, 0, "lost 6;"), 1);
            e.is("lost", x.lease(0, 3), 6);
            e.is("day", x.lease(0, 1), 0);
        });
        e.test(23, "REFUSALS, of several the first one named", () -> {
            EmptyBoxes x = new EmptyBoxes();
            e.is("read(-1) of no TEXT", Due.read(x, -1, "xyz"), NUMBER);
            e.is("read(3) of no TEXT", Due.read(x, 3, "xyz"), NUMBER);
        });
    }

    private void withoutClauses() {
        e.test(24, "free, day, worn, lost: 0 without; drop: 0 without; room: 999 without.", () -> {
            EmptyBoxes x = new EmptyBoxes();
            e.is("all", Due.read(x, 0, ALL), 16);
            e.is("none", x.read(0), 0);
            for (int what = 0; what < 4; what++) {
                e.is("lease(0, " + what + ")", x.lease(0, what), 0);
            }
            for (int p = 0; p < 6; p++) {
                e.is("drop " + p, x.lease(0, 10 + p), 0);
                e.is("room " + p, x.lease(0, 20 + p), 999);
            }
            e.is("some", Due.read(x, 0, "room 5 0;drop 0 7;"), 2);
            e.is("drop 0", x.lease(0, 10), 7);
            e.is("drop 5", x.lease(0, 15), 0);
            e.is("room 0", x.lease(0, 20), 999);
            e.is("room 5", x.lease(0, 25), 0);
        });
    }

    private void lease() {
        e.test(24, "Of a LEASE: what = 0 free, 1 day, 2 worn, 3 lost, 10 + p drop, 20 + p room of PLACE p.", () -> {
            EmptyBoxes x = new EmptyBoxes();
            Due.read(x, 2, ALL);
            for (int what = 0; what < 4; what++) {
                e.is("lease(2, " + what + ")", x.lease(2, what), what);
            }
            for (int p = 0; p < 6; p++) {
                e.is("drop " + p, x.lease(2, 10 + p), 1 + p);
                e.is("room " + p, x.lease(2, 20 + p), p);
            }
        });
        e.test(24, "NUMBER: there is none such", () ->
                e.range("lease(lease, 0)", 0, 2, Scenes.BUSY, (x, v) -> x.lease(v, 0)));
        e.test(24, "another what", () -> {
            for (int what = -20; what <= 50; what++) {
                boolean told = what >= 0 && what <= 3 || what >= 10 && what <= 15 || what >= 20 && what <= 25;
                e.is("lease(1, " + what + ")", (Scenes.BUSY.get().lease(1, what) == NUMBER) != told);
            }
            for (int what : new int[] {-1, 4, 9, 16, 19, 26, 256, 65536 + 20, Integer.MIN_VALUE, Integer.MAX_VALUE}) {
                e.refused("lease(1, " + what + ")", NUMBER, Scenes.BUSY, x -> x.lease(1, what));
            }
        });
        e.test(24, "NONE: it was never read.", () -> {
            e.refused("lease(2, 0)", NONE, Scenes.BUSY, x -> x.lease(2, 0));
            e.refused("lease(2, 25)", NONE, Scenes.BUSY, x -> x.lease(2, 25));
            EmptyBoxes x = new EmptyBoxes();
            e.is("a FAULT", Due.read(x, 0, "day"), -103);
            e.is("never read", x.lease(0, 1), NONE);
            e.is("an empty TEXT", x.read(0), 0);
            e.is("read", x.lease(0, 1), 0);
        });
        e.test(24, "REFUSALS, of several the first one named", () -> {
            e.is("another what of a LEASE never read", new EmptyBoxes().lease(0, 4), NUMBER);
            e.is("no LEASE, another what", new EmptyBoxes().lease(3, 4), NUMBER);
        });
    }
}
