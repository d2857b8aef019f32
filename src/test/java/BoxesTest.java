/** Promises 1 (a new object) to 6 (of). */
public final class BoxesTest {
    private static final Due due = new Due("BoxesTest");
    private static final int NUMBER = EmptyBoxes.NUMBER;
    private static final int FULL = EmptyBoxes.FULL;
    private static final int NONE = EmptyBoxes.NONE;
    private static final int STATE = EmptyBoxes.STATE;

    public static void main(String[] args) {
        newObject();
        days();
        box();
        check();
        find();
        of();
        due.end();
    }

    private static void newObject() {
        EmptyBoxes x = new EmptyBoxes();
        for (int what = 0; what <= 11; what++) {
            due.is("1: many(" + what + ")", x.many(what), 0);
        }
        for (int lease = 0; lease < 3; lease++) {
            due.is("1: lease(" + lease + ", 0)", x.lease(lease, 0), NONE);
        }
        due.is("1: back()", x.back(), NONE);
        due.is("1: least()", x.least(), 0);
        due.is("1: match(0)", x.match(0), 0);
        due.is("1: match(1)", x.match(1), 0);
        due.is("1: net(0, 0)", x.net(0, 0), 1000000);
        due.is("1: lack(0)", x.lack(0), 100);
        due.is("1: rate(0, 0)", x.rate(0, 0), 5);
        due.is("1: rate(1, 0)", x.rate(1, 0), 2);
        for (int place = 0; place < 6; place++) {
            for (int week = 0; week < 5; week++) {
                due.is("1: stock", x.week(place, week, 0, 0), 0);
                due.is("1: need", x.week(place, week, 1, 0), 0);
            }
        }
        due.is("1: leave", x.leave(0, 1, false), 0);
    }

    private static void days() {
        EmptyBoxes x = new EmptyBoxes();
        due.is("2: days(0)", x.days(0), NUMBER);
        due.is("2: days(31)", x.days(31), NUMBER);
        due.is("2: days(-1)", x.days(-1), NUMBER);
        due.is("2: days(max)", x.days(Integer.MAX_VALUE), NUMBER);
        due.is("2: days(min)", x.days(Integer.MIN_VALUE), NUMBER);
        due.is("2: today", x.many(8), 0);
        due.is("2: days(1)", x.days(1), 1);
        for (int i = 1; i <= 6; i++) {
            due.is("2: days(30)", x.days(30), 1 + 30 * i);
        }
        due.is("2: days(20) to 201", x.days(20), STATE);
        due.is("2: days(31) late", x.days(31), NUMBER);
        due.is("2: today", x.many(8), 181);
        due.is("2: days(19) to 200", x.days(19), 200);
        due.is("2: days(1) to 201", x.days(1), STATE);
        due.is("2: today", x.many(8), 200);
    }

    private static void box() {
        EmptyBoxes x = new EmptyBoxes();
        String before = Due.picture(x);
        due.is("3: mark -1", x.box(-1, 0, 0, -1), NUMBER);
        due.is("3: mark 10000", x.box(10000, 0, 0, -1), NUMBER);
        due.is("3: kind -1", x.box(1, -1, 0, -1), NUMBER);
        due.is("3: kind 3", x.box(1, 3, 0, -1), NUMBER);
        due.is("3: line -1", x.box(1, 0, -1, -1), NUMBER);
        due.is("3: line 4", x.box(1, 0, 4, -1), NUMBER);
        due.is("3: lease -2", x.box(1, 0, 0, -2), NUMBER);
        due.is("3: lease 3", x.box(1, 0, 0, 3), NUMBER);
        due.is("3: lease unread", x.box(1, 0, 0, 0), STATE);
        due.is("3: nothing changed", Due.picture(x), before);
        due.is("3: first", x.box(0, 2, 3, -1), 0);
        due.is("3: last mark", x.box(9999, 0, 0, -1), 1);
        due.is("3: the mark again", x.box(0, 0, 0, -1), STATE);
        due.is("3: the mark again, kind 3", x.box(0, 3, 0, -1), NUMBER);
        x.read(2);
        due.is("3: lease read", x.box(1, 0, 0, 2), 2);
        for (int mark = 2; mark < 23; mark++) {
            due.is("3: number", x.box(mark, 0, 0, -1), mark + 1);
        }
        due.is("3: FULL", x.box(500, 0, 0, -1), FULL);
        due.is("3: STATE ahead of FULL, mark", x.box(5, 0, 0, -1), STATE);
        due.is("3: STATE ahead of FULL, lease", x.box(500, 0, 0, 1), STATE);
        due.is("3: NUMBER ahead of all", x.box(5, 0, 0, 3), NUMBER);
        due.is("3: many", x.many(0), 24);
    }

    private static void check() {
        EmptyBoxes x = new EmptyBoxes();
        for (int mark = 0; mark <= 9999; mark++) {
            String digits = String.format("%04d", mark);
            int sum = 0;
            for (int i = 0; i < 4; i++) {
                sum += (digits.charAt(i) - '0') << i;
            }
            due.is("4: check(" + mark + ")", x.check(mark), sum % 11 % 10);
        }
        due.is("4: rest 10 is 0", x.check(2001), 0);
        due.is("4: check(-1)", x.check(-1), NUMBER);
        due.is("4: check(10000)", x.check(10000), NUMBER);
        due.is("4: check(min)", x.check(Integer.MIN_VALUE), NUMBER);
        due.is("4: check(max)", x.check(Integer.MAX_VALUE), NUMBER);
    }

    private static void find() {
        EmptyBoxes x = new EmptyBoxes();
        due.is("5: nothing there", x.find(12345), NONE);
        x.box(1234, 0, 0, -1);
        due.is("5: right", x.find(12345), 0);
        due.is("5: first digit off", x.find(92345), 0);
        due.is("5: second digit off", x.find(13345), 0);
        due.is("5: third digit off", x.find(12045), 0);
        due.is("5: fourth digit off", x.find(12395), 0);
        due.is("5: check off", x.find(12340), 0);
        due.is("5: two off", x.find(12356), NONE);
        due.is("5: -1", x.find(-1), NUMBER);
        due.is("5: 100000", x.find(100000), NUMBER);
        due.is("5: min", x.find(Integer.MIN_VALUE), NUMBER);
        due.is("5: max", x.find(Integer.MAX_VALUE), NUMBER);
        // 1244 has the check 9: what is read as 12445 is one off from both.
        x.box(1244, 0, 0, -1);
        due.is("5: two boxes near", x.find(12445), NONE);
        due.is("5: right wins over near", x.find(12449), 1);
        // 2001 leaves 10 by 11 and 3001 leaves 0: both have the check 0.
        EmptyBoxes y = new EmptyBoxes();
        y.box(2001, 0, 0, -1);
        due.is("5: zero read", y.find(20010), 0);
        due.is("5: right of no box, but near one", y.find(30010), 0);
        y.box(3001, 0, 0, -1);
        due.is("5: right of a box", y.find(30010), 1);
        due.is("5: a mark with a wrong check is near", y.find(30019), 1);
        due.is("5: near both", y.find(40010), NONE);
        EmptyBoxes z = new EmptyBoxes();
        z.box(0, 0, 0, -1);
        due.is("5: all zeros", z.find(0), 0);
        due.is("5: leading zeros count", z.find(1), 0);
        due.is("5: 90000", z.find(90000), 0);
        due.is("5: 11", z.find(11), NONE);
    }

    private static void of() {
        EmptyBoxes x = new EmptyBoxes();
        due.is("6: no box", x.of(0, 0), NUMBER);
        x.days(3);
        Due.read(x, 1, "day 2;lost 7;");
        x.box(4321, 2, 3, -1);
        x.days(4);
        x.box(77, 1, 2, 1);
        x.box(78, 1, 2, 1);
        int[] own = {4321, 2, 3, NONE, 3, 0, NONE};
        int[] leased = {77, 1, 2, 1, 7, 0, NONE};
        for (int what = 0; what <= 6; what++) {
            due.is("6: of(0, " + what + ")", x.of(0, what), own[what]);
            due.is("6: of(1, " + what + ")", x.of(1, what), leased[what]);
        }
        due.is("6: what -1", x.of(0, -1), NUMBER);
        due.is("6: what 7", x.of(0, 7), NUMBER);
        due.is("6: what 8", x.of(0, 8), NUMBER);
        due.is("6: box -1", x.of(-1, 0), NUMBER);
        due.is("6: box 3", x.of(3, 0), NUMBER);
        due.is("6: box max", x.of(Integer.MAX_VALUE, 0), NUMBER);
        x.writeOff(1);
        due.is("6: written off", x.of(1, 5), 2);
        due.is("6: its bill", x.of(1, 6), 9);
        x.word(2, 7, 0, 0);
        x.giveBack(2, 0);
        due.is("6: given back", x.of(2, 5), 1);
        due.is("6: its bill", x.of(2, 6), 2);
        due.is("6: its lease stays", x.of(2, 3), 1);
    }
}
