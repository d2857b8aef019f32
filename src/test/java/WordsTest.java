/** Promises 7 (word) to 11 (count). */
public final class WordsTest {
    private static final Due due = new Due("WordsTest");
    private static final int NUMBER = EmptyBoxes.NUMBER;
    private static final int FULL = EmptyBoxes.FULL;
    private static final int NONE = EmptyBoxes.NONE;
    private static final int STATE = EmptyBoxes.STATE;

    public static void main(String[] args) {
        word();
        whereAndSince();
        quarrels();
        count();
        due.end();
    }

    private static void word() {
        EmptyBoxes x = new EmptyBoxes();
        due.is("7: no box", x.word(0, 0, 0, 0), NUMBER);
        x.read(0);
        x.box(1, 0, 0, -1);
        x.box(2, 0, 0, 0);
        x.box(3, 0, 0, 0);
        x.days(2);
        String before = Due.picture(x);
        due.is("7: box -1", x.word(-1, 0, 0, 0), NUMBER);
        due.is("7: box 3", x.word(3, 0, 0, 0), NUMBER);
        due.is("7: day -1", x.word(0, -1, 0, 0), NUMBER);
        due.is("7: day behind TODAY", x.word(0, 3, 0, 0), NUMBER);
        due.is("7: place -1", x.word(0, 0, -1, 0), NUMBER);
        due.is("7: place 6", x.word(0, 0, 6, 0), NUMBER);
        due.is("7: what -1", x.word(0, 0, 0, -1), NUMBER);
        due.is("7: what 2", x.word(0, 0, 0, 2), NUMBER);
        due.is("7: nothing changed", Due.picture(x), before);
        due.is("7: TODAY", x.word(1, 2, 5, 0), 0);
        x.giveBack(1, 0);
        x.writeOff(2);
        due.is("7: given back", x.word(1, 2, 0, 1), STATE);
        due.is("7: written off", x.word(2, 2, 0, 1), STATE);
        due.is("7: given back, place 6", x.word(1, 2, 6, 1), NUMBER);
        for (int i = 1; i < 60; i++) {
            due.is("7: number", x.word(0, i % 3, i % 6, i % 2), i);
        }
        due.is("7: FULL", x.word(0, 0, 0, 0), FULL);
        due.is("7: STATE ahead of FULL", x.word(1, 0, 0, 0), STATE);
        due.is("7: NUMBER ahead of FULL", x.word(0, 3, 0, 0), NUMBER);
        due.is("7: many", x.many(1), 60);
    }

    private static void whereAndSince() {
        EmptyBoxes x = new EmptyBoxes();
        due.is("8: no box", x.where(0, 0, 0), NUMBER);
        due.is("9: no box", x.since(0, 0, 0), NUMBER);
        x.box(1, 0, 0, -1);
        x.box(2, 0, 0, -1);
        x.days(10);
        x.word(0, 5, 3, 0);
        x.word(0, 8, 3, 1);
        x.word(1, 6, 4, 0);
        x.days(10);
        // Told late: where it was on days 2 and 8 is known on day 20 alone.
        x.word(0, 2, 1, 1);
        x.word(0, 8, 5, 0);
        int[][] asked = {
            // d, k, where, since
            {4, 10, 20, NONE}, {5, 10, 3, 5}, {7, 10, 3, 5}, {8, 10, 13, 8}, {200, 10, 13, 8},
            {1, 20, 20, NONE}, {2, 20, 11, 2}, {4, 20, 11, 2}, {5, 20, 3, 5}, {8, 20, 5, 8},
            {200, 20, 5, 8}, {8, 19, 13, 8}, {8, 9, 20, NONE}, {0, 0, 20, NONE},
        };
        for (int[] row : asked) {
            due.is("8: where(0, " + row[0] + ", " + row[1] + ")", x.where(0, row[0], row[1]), row[2]);
            due.is("9: since(0, " + row[0] + ", " + row[1] + ")", x.since(0, row[0], row[1]), row[3]);
        }
        due.is("8: the other box", x.where(1, 8, 20), 4);
        int[][] wrong = {{-1, 0, 0}, {2, 0, 0}, {0, -1, 0}, {0, 201, 0}, {0, 0, -1}, {0, 0, 21}};
        for (int[] row : wrong) {
            due.is("8: wrong", x.where(row[0], row[1], row[2]), NUMBER);
            due.is("9: wrong", x.since(row[0], row[1], row[2]), NUMBER);
        }
        // A word told earlier of a later day wins over one told later of an earlier day.
        x.word(1, 20, 0, 1);
        x.word(1, 19, 2, 0);
        due.is("8: greatest day", x.where(1, 20, 20), 10);
        due.is("9: greatest day", x.since(1, 20, 20), 20);
        due.is("8: the day before", x.where(1, 19, 20), 2);
        // IN the same place again: it is so by the latest word.
        x.word(0, 12, 5, 0);
        due.is("9: by its word", x.since(0, 15, 20), 12);
        // Of like days the later told one, OUT as well as IN.
        x.word(0, 15, 1, 0);
        x.word(0, 15, 2, 0);
        x.word(0, 15, 2, 1);
        due.is("8: like days", x.where(0, 15, 20), 12);
    }

    /** The quarrels that there are behind words of one day, each two numbers: place, out. */
    private static int quarrelsOf(int... words) {
        EmptyBoxes x = new EmptyBoxes();
        x.box(1, 0, 0, -1);
        for (int i = 0; i + 1 < words.length; i += 2) {
            x.word(0, 0, words[i], words[i + 1]);
        }
        return x.quarrels(0, 0);
    }

    private static void quarrels() {
        due.is("10: none", quarrelsOf(), 0);
        due.is("10: one word", quarrelsOf(1, 0), 0);
        due.is("10: IN IN same", quarrelsOf(1, 0, 1, 0), 0);
        due.is("10: IN IN unlike", quarrelsOf(1, 0, 2, 0), 1);
        due.is("10: OUT OUT same", quarrelsOf(1, 1, 1, 1), 1);
        due.is("10: OUT OUT unlike", quarrelsOf(1, 1, 2, 1), 1);
        due.is("10: OUT of another behind IN", quarrelsOf(1, 0, 2, 1), 1);
        due.is("10: OUT of the same behind IN", quarrelsOf(1, 0, 1, 1), 0);
        due.is("10: IN at another behind OUT", quarrelsOf(1, 1, 2, 0), 0);
        due.is("10: IN at the same behind OUT", quarrelsOf(1, 1, 1, 0), 0);
        due.is("10: a row", quarrelsOf(1, 0, 2, 0, 3, 1, 3, 1, 3, 0, 3, 0), 3);
        EmptyBoxes x = new EmptyBoxes();
        due.is("10: no box", x.quarrels(0, 0), NUMBER);
        x.box(1, 0, 0, -1);
        x.box(2, 0, 0, -1);
        x.days(9);
        x.word(0, 2, 1, 0);
        x.word(1, 3, 5, 0);
        x.word(0, 6, 2, 0);
        due.is("10: known on 9", x.quarrels(0, 9), 1);
        due.is("10: not known on 8", x.quarrels(0, 8), 0);
        x.days(1);
        x.word(0, 4, 1, 1);
        due.is("10: mended by a late word", x.quarrels(0, 10), 0);
        due.is("10: but not as known before", x.quarrels(0, 9), 1);
        x.word(0, 1, 4, 0);
        due.is("10: by days, not by numbers", x.quarrels(0, 10), 1);
        due.is("10: the other box", x.quarrels(1, 10), 0);
        EmptyBoxes y = new EmptyBoxes();
        y.box(1, 0, 0, -1);
        y.days(4);
        y.word(0, 3, 2, 0);
        y.word(0, 1, 2, 0);
        y.word(0, 2, 5, 0);
        y.word(0, 4, 5, 1);
        due.is("10: number 0 stands between others", y.quarrels(0, 4), 3);
        due.is("10: box 2", x.quarrels(2, 0), NUMBER);
        due.is("10: box -1", x.quarrels(-1, 0), NUMBER);
        due.is("10: k -1", x.quarrels(0, -1), NUMBER);
        due.is("10: k behind TODAY", x.quarrels(0, 11), NUMBER);
    }

    private static void count() {
        EmptyBoxes x = new EmptyBoxes();
        x.read(0);
        for (int mark = 0; mark < 7; mark++) {
            x.box(mark, 0, 0, mark < 5 ? -1 : 0);
        }
        x.word(0, 0, 3, 0);
        x.word(1, 0, 3, 0);
        x.word(2, 0, 3, 1);
        x.word(3, 0, 0, 1);
        x.days(20);
        x.word(3, 1, 0, 1);
        x.word(5, 20, 3, 0);
        due.is("11: IN 3", x.count(3), 3);
        due.is("11: IN 0", x.count(0), 0);
        due.is("11: on the WAY", x.count(10), 2);
        due.is("11: UNHEARD", x.count(20), 2);
        due.is("11: LATE on day 20", x.count(30), 0);
        x.days(1);
        due.is("11: LATE on day 21", x.count(30), 1);
        x.giveBack(5, 0);
        x.writeOff(6);
        due.is("11: IN 3, one given back", x.count(3), 2);
        due.is("11: UNHEARD, one written off", x.count(20), 1);
        x.days(1);
        due.is("11: LATE on day 22", x.count(30), 2);
        x.word(3, 22, 5, 0);
        due.is("11: LATE, one came in", x.count(30), 1);
        due.is("11: IN 5", x.count(5), 1);
        due.is("11: on the WAY", x.count(10), 1);
        EmptyBoxes y = new EmptyBoxes();
        y.box(1, 0, 0, -1);
        y.word(0, 0, 5, 1);
        y.days(21);
        due.is("11: LATE by word 0", y.count(30), 1);
        due.is("11: on the WAY from 5", y.count(10), 1);
        due.is("11: UNHEARD none", y.count(20), 0);
        for (int what : new int[] {-1, 6, 9, 11, 15, 19, 21, 29, 31, Integer.MIN_VALUE, Integer.MAX_VALUE}) {
            due.is("11: count(" + what + ")", x.count(what), NUMBER);
        }
    }
}
