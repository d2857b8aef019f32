/** Promises 22 (feed) to 26 (writeOff). */
public final class LeasesTest {
    private static final Due due = new Due("LeasesTest");
    private static final int NUMBER = EmptyBoxes.NUMBER;
    private static final int FULL = EmptyBoxes.FULL;
    private static final int NONE = EmptyBoxes.NONE;
    private static final int STATE = EmptyBoxes.STATE;

    public static void main(String[] args) {
        feed();
        readTexts();
        readFaults();
        readChanges();
        lease();
        giveBack();
        room();
        writeOff();
        due.end();
    }

    private static void feed() {
        EmptyBoxes x = new EmptyBoxes();
        due.is("22: n 0", x.feed(0, 0), NUMBER);
        due.is("22: n 9", x.feed(0, 9), NUMBER);
        due.is("22: n -1", x.feed(0, -1), NUMBER);
        due.is("22: n min", x.feed(0, Integer.MIN_VALUE), NUMBER);
        due.is("22: bytes", x.many(7), 0);
        for (int i = 1; i <= 14; i++) {
            due.is("22: eight more", x.feed(0x2020202020202020L, 8), 8 * i);
        }
        due.is("22: seven more", x.feed(0x2020202020202020L, 7), 119);
        due.is("22: FULL", x.feed(0x2020L, 2), FULL);
        due.is("22: NUMBER ahead of FULL", x.feed(0x2020L, 9), NUMBER);
        due.is("22: bytes", x.many(7), 119);
        due.is("22: the last one", x.feed(0x20L, 1), 120);
        due.is("22: FULL at 120", x.feed(0x20L, 1), FULL);
        due.is("22: FULL keeps the tape", x.many(7), 120);
        due.is("22: all blanks are a TEXT", x.read(0), 0);
        due.is("22: used up", x.many(7), 0);
        // The lowest byte comes first: "day 7;" fed from the low end, with other bytes above it.
        due.is("22: order", x.feed(0x58583b3720796164L, 6), 6);
        due.is("22: order read", x.read(0), 1);
        due.is("22: order day", x.lease(0, 1), 7);
    }

    private static void readTexts() {
        EmptyBoxes x = new EmptyBoxes();
        due.is("23: empty", x.read(0), 0);
        due.is("23: room without", x.lease(0, 25), 999);
        due.is("23: all six", Due.read(x, 1, "free 1;day 2;worn 3;lost 4;drop 5 6;room 0 7;"), 6);
        int[][] terms = {{0, 1}, {1, 2}, {2, 3}, {3, 4}, {15, 6}, {10, 0}, {20, 7}, {21, 999}, {25, 999}};
        for (int[] term : terms) {
            due.is("23: lease(1, " + term[0] + ")", x.lease(1, term[0]), term[1]);
        }
        due.is("23: blanks", Due.read(x, 1, "  room  3   12 ;  lost 0 ; "), 2);
        due.is("23: room", x.lease(1, 23), 12);
        due.is("23: read anew, free is gone", x.lease(1, 0), 0);
        due.is("23: read anew, drop is gone", x.lease(1, 15), 0);
        due.is("23: read anew, room is gone", x.lease(1, 20), 999);
        due.is("23: no blanks", Due.read(x, 1, "free999;drop0 1;drop1 2;lost007;"), 4);
        due.is("23: free", x.lease(1, 0), 999);
        due.is("23: drop", x.lease(1, 11), 2);
        due.is("23: lost", x.lease(1, 3), 7);
        due.is("23: P of three digits", Due.read(x, 1, "drop 005 9;"), 1);
        due.is("23: drop", x.lease(1, 15), 9);
        String all = "free1;day1;worn1;lost1;drop0 1;drop1 1;drop2 1;drop3 1;drop4 1;drop5 1;"
                + "room0 1;room1 1;room2 1;room3 1;room4 1;";
        due.is("23: fifteen", Due.read(x, 1, all), 15);
        due.is("23: sixteen", Due.read(x, 1, all + "room5 8;"), 16);
        due.is("23: the sixteenth", x.lease(1, 25), 8);
        due.is("23: drop and room of the same P", Due.read(x, 2, "room 1 3;drop 1 4;"), 2);
        due.is("23: room 1", x.lease(2, 21), 3);
        due.is("23: drop 1", x.lease(2, 11), 4);
    }

    private static void fault(String text, int place) {
        EmptyBoxes x = new EmptyBoxes();
        due.is("23: '" + text + "'", Due.read(x, 0, text), -100 - place);
        due.is("23: '" + text + "' uses the tape up", x.many(7), 0);
        due.is("23: '" + text + "' reads no lease", x.lease(0, 0), NONE);
    }

    private static void readFaults() {
        fault("fre 1;", 0);
        fault("freez 1;", 0);
        fault("afree 1;", 0);
        fault("free z;", 5);
        fault("free 0;free 1;", 7);
        fault("drop 1 0;drop 1 0;", 14);
        fault("frees 1;", 0);
        fault("freeday 1;", 0);
        fault("Free 1;", 0);
        fault("fRee 1;", 0);
        fault("f", 0);
        fault("fre", 0);
        fault("free", 4);
        fault("free  ", 6);
        fault("free 1", 6);
        fault("free 1 ", 7);
        fault("free;", 4);
        fault("free a;", 5);
        fault("free 1 1;", 7);
        fault("free 1day 2;", 6);
        fault("free 1,", 6);
        fault("free 1000;", 5);
        fault("free 0001;", 5);
        fault("free 1000", 5);
        fault("free -1;", 5);
        fault("free 1;;", 7);
        fault("free 1; ;", 8);
        fault(";", 0);
        fault("  7;", 2);
        fault("free 1;day", 10);
        fault("free 1;day 2;free 3;", 13);
        fault("free 1;free", 7);
        fault("day 1;day 1;", 6);
        fault("worn 1;worn 1;", 7);
        fault("lost 1;lost 1;", 7);
        fault("drop 1 1; drop 1 2;", 15);
        fault("room 1 1;room 01 2;", 14);
        fault("drop 1 1;drop 1", 14);
        fault("drop 6 1;", 5);
        fault("drop 0000 1;", 5);
        fault("room 10 1;", 5);
        fault("drop", 4);
        fault("drop 1", 6);
        fault("drop 1;", 6);
        fault("drop ;", 5);
        fault("drop x 1;", 5);
        fault("drop 1 x;", 7);
        fault("drop 1 1000;", 7);
        fault("room12;", 4);
        fault("{free 1;}", 0);
        fault("free\t1;", 4);
        fault("free\n1;", 4);
        fault("free 1;" + (char) 0, 7);
        fault("free 1;" + (char) 255, 7);
        fault((char) 128 + "free 1;", 0);
        fault("free " + (char) 177 + ";", 5);
        fault("`", 0);
        fault("free 1;{", 7);
        fault("free 1/;", 6);
        fault("free 1:", 6);
    }

    private static void readChanges() {
        EmptyBoxes x = new EmptyBoxes();
        Due.read(x, 0, "free 5;day 6;");
        Due.feed(x, "day 1;");
        due.is("23: lease 3", x.read(3), NUMBER);
        due.is("23: NUMBER uses the tape up", x.many(7), 0);
        Due.feed(x, "day 1;");
        due.is("23: lease -1", x.read(-1), NUMBER);
        due.is("23: NUMBER uses the tape up", x.many(7), 0);
        due.is("23: a fault late in the text", Due.read(x, 0, "day 9;lost 3;free 1000;"), -118);
        due.is("23: the lease stays, day", x.lease(0, 1), 6);
        due.is("23: the lease stays, free", x.lease(0, 0), 5);
        due.is("23: the lease stays, lost", x.lease(0, 3), 0);
        due.is("23: leases read", x.many(5), 1);
        due.is("23: a long tape", Due.read(x, 0, "day 1234567;"), -104);
        due.is("23: bytes of a tape that is used up", Due.read(x, 0, "day 12"), -106);
        due.is("23: a long word", Due.read(x, 0, "dayfreeday"), -100);
        due.is("23: letters of a tape that is used up", Due.read(x, 0, "day"), -103);
        due.is("23: other leases stay", x.lease(1, 0), NONE);
    }

    private static void lease() {
        EmptyBoxes x = new EmptyBoxes();
        due.is("24: never read", x.lease(0, 0), NONE);
        due.is("24: never read, room", x.lease(2, 25), NONE);
        due.is("24: NUMBER ahead of NONE", x.lease(0, 4), NUMBER);
        due.is("24: lease 3", x.lease(3, 0), NUMBER);
        due.is("24: lease -1", x.lease(-1, 0), NUMBER);
        x.read(0);
        for (int what : new int[] {-1, 4, 9, 16, 19, 26, 30, Integer.MIN_VALUE, Integer.MAX_VALUE}) {
            due.is("24: lease(0, " + what + ")", x.lease(0, what), NUMBER);
        }
        for (int p = 0; p < 6; p++) {
            due.is("24: drop", x.lease(0, 10 + p), 0);
            due.is("24: room", x.lease(0, 20 + p), 999);
        }
    }

    private static void giveBack() {
        EmptyBoxes x = new EmptyBoxes();
        due.is("25: no box", x.giveBack(0, 0), NUMBER);
        Due.read(x, 0, "free 3;day 10;drop 2 40;worn 5;lost 900;");
        x.days(2);
        for (int mark = 0; mark < 5; mark++) {
            x.box(mark, 0, 0, mark == 1 ? -1 : 0);
        }
        x.word(0, 1, 2, 0);
        x.word(1, 1, 2, 0);
        x.word(2, 1, 2, 1);
        x.word(4, 2, 2, 0);
        String before = Due.picture(x);
        due.is("25: box 5", x.giveBack(5, 0), NUMBER);
        due.is("25: box -1", x.giveBack(-1, 0), NUMBER);
        due.is("25: wear -1", x.giveBack(0, -1), NUMBER);
        due.is("25: wear 10", x.giveBack(0, 10), NUMBER);
        due.is("25: own", x.giveBack(1, 0), STATE);
        due.is("25: own, wear 10", x.giveBack(1, 10), NUMBER);
        due.is("25: on the WAY", x.giveBack(2, 0), STATE);
        due.is("25: UNHEARD", x.giveBack(3, 0), STATE);
        due.is("25: nothing changed", Due.picture(x), before);
        x.days(10);
        // Days 2 to 12 are 11, 3 of them free: 80; drop 40; worn 9 times 5.
        due.is("25: bill", x.giveBack(0, 9), 80 + 40 + 45);
        due.is("25: again", x.giveBack(0, 9), STATE);
        due.is("25: of", x.of(0, 6), 165);
        due.is("25: many(9)", x.many(9), 1);
        due.is("25: many(11)", x.many(11), 165);
        due.is("25: where it was stays known", x.where(0, 12, 12), 2);
        Due.read(x, 0, "day 1;");
        due.is("25: a bill stays", x.of(0, 6), 165);
        due.is("25: read anew", x.giveBack(4, 9), 11);
        due.is("25: many(11)", x.many(11), 176);
        // As many free days as there are, and one fewer.
        EmptyBoxes y = new EmptyBoxes();
        Due.read(y, 1, "free 4;day 100;");
        y.box(1, 0, 0, 1);
        y.box(2, 0, 0, 1);
        y.word(0, 0, 0, 0);
        y.word(1, 0, 0, 0);
        y.days(3);
        due.is("25: all free", y.giveBack(0, 0), 0);
        due.is("25: a bill of 0 is a bill", y.of(0, 6), 0);
        y.days(1);
        due.is("25: one day", y.giveBack(1, 0), 100);
        // On the day on which it came one day counts.
        EmptyBoxes z = new EmptyBoxes();
        Due.read(z, 2, "day 999;drop 5 999;worn 999;");
        z.box(1, 0, 0, 2);
        z.word(0, 0, 5, 0);
        due.is("25: the day itself", z.giveBack(0, 9), 999 * 11);
    }

    private static void room() {
        EmptyBoxes x = new EmptyBoxes();
        Due.read(x, 0, "room 1 2;room 2 0;");
        Due.read(x, 1, "room 1 1;");
        for (int mark = 0; mark < 10; mark++) {
            x.box(mark, 0, 0, mark == 9 ? 1 : 0);
            x.word(mark, 0, 1, 0);
        }
        x.days(6);
        due.is("25: first", x.giveBack(0, 0), 0);
        due.is("25: second", x.giveBack(1, 0), 0);
        due.is("25: third of the week", x.giveBack(2, 0), FULL);
        due.is("25: STATE ahead of FULL", x.giveBack(0, 0), STATE);
        due.is("25: NUMBER ahead of FULL", x.giveBack(2, 10), NUMBER);
        due.is("25: FULL changes nothing", x.of(2, 5), 0);
        due.is("25: another lease", x.giveBack(9, 0), 0);
        x.word(3, 6, 2, 0);
        due.is("25: room 0", x.giveBack(3, 0), FULL);
        x.word(3, 6, 3, 0);
        due.is("25: another place", x.giveBack(3, 0), 0);
        x.days(1);
        due.is("25: another week", x.giveBack(2, 0), 0);
        due.is("25: another week, second", x.giveBack(4, 0), 0);
        due.is("25: another week, third", x.giveBack(5, 0), FULL);
        Due.read(x, 0, "room 1 3;");
        due.is("25: more room", x.giveBack(5, 0), 0);
        due.is("25: full again", x.giveBack(6, 0), FULL);
        Due.read(x, 0, "room 1 1;");
        due.is("25: less room than there are", x.giveBack(6, 0), FULL);
        x.days(6);
        due.is("25: last day of the week", x.giveBack(6, 0), FULL);
        x.days(1);
        due.is("25: next week", x.giveBack(6, 0), 0);
        due.is("25: next week, second", x.giveBack(7, 0), FULL);
        x.read(0);
        due.is("25: room without", x.giveBack(7, 0), 0);
    }

    private static void writeOff() {
        EmptyBoxes x = new EmptyBoxes();
        due.is("26: no box", x.writeOff(0), NUMBER);
        Due.read(x, 0, "free 2;day 3;lost 500;drop 0 50;worn 9;");
        for (int mark = 0; mark < 5; mark++) {
            x.box(mark, 0, 0, mark == 1 ? -1 : 0);
        }
        x.word(2, 0, 0, 0);
        x.word(3, 0, 0, 1);
        x.word(4, 0, 0, 0);
        String before = Due.picture(x);
        due.is("26: box -1", x.writeOff(-1), NUMBER);
        due.is("26: box 5", x.writeOff(5), NUMBER);
        due.is("26: own and UNHEARD", x.writeOff(1), STATE);
        due.is("26: IN a place", x.writeOff(2), STATE);
        due.is("26: on the WAY, not LATE", x.writeOff(3), STATE);
        due.is("26: nothing changed", Due.picture(x), before);
        due.is("26: UNHEARD", x.writeOff(0), 500);
        due.is("26: again", x.writeOff(0), STATE);
        x.days(20);
        due.is("26: 20 days on the WAY", x.writeOff(3), STATE);
        x.days(1);
        due.is("26: LATE", x.writeOff(3), 20 * 3 + 500);
        due.is("26: of", x.of(3, 5), 2);
        due.is("26: bill", x.of(3, 6), 560);
        due.is("26: no giving back then", x.giveBack(3, 0), STATE);
        x.giveBack(4, 0);
        due.is("26: given back", x.writeOff(4), STATE);
        due.is("26: many(10)", x.many(10), 2);
        due.is("26: many(9)", x.many(9), 1);
        due.is("26: many(11)", x.many(11), 500 + 560 + 110);
    }
}
