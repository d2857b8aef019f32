/** Long runs of calls by dice, right ones and wrong ones, with what a plain desk answers. */
public final class RunsTest {
    private static final Due due = new Due("RunsTest");
    private static final int RUNS = 1500;
    private static final int CALLS = 512;
    private static final int[] WILD = {-2, -1, 200, 201, 1000, 10000, 100000, Integer.MIN_VALUE, Integer.MAX_VALUE,
        Integer.MAX_VALUE - 1, 1 << 30, -100};
    private static final String[] CLAUSES = {"free ", "day ", "worn ", "lost ", "drop ", "room "};
    private static final String[] SIGNS = {"free", "day", "drop", "room", "worn", "lost", "dy", " ", ";", "1", "05",
        "0001", "7", "x", "A", "  ", "", "250", "{", "\t"};

    private final Dice dice;
    private final EmptyBoxes x = new EmptyBoxes();
    private final PlainDesk plain = new PlainDesk();
    private final int wildness;
    private final int longWait;

    private RunsTest(int seed) {
        dice = new Dice(seed * 7919L + 13);
        wildness = dice.below(3) == 0 ? 6 : 60;
        longWait = 1 + dice.below(30);
    }

    public static void main(String[] args) {
        for (int run = 0; run < RUNS && due.allRight(); run++) {
            new RunsTest(run).go(run);
        }
        due.end();
    }

    private void go(int run) {
        int only = dice.below(8);
        for (int call = 0; call < CALLS && due.allRight(); call++) {
            // Some runs dwell on one part of the desk, so that its limits are reached.
            int which = only < 6 && dice.below(3) > 0 ? part(only) : dice.below(33);
            due(run + "." + call, which);
        }
    }

    private int part(int only) {
        int[] first = {0, 5, 10, 15, 20, 25};
        int[] many = {5, 5, 5, 5, 5, 6};
        if (dice.below(6) == 0) {
            return dice.below(2) == 0 ? 1 : 6;
        }
        return first[only] + dice.below(many[only]);
    }

    /** 0 to n - 1 mostly; sometimes just outside, or far out. */
    private int up(int n) {
        if (dice.below(wildness) == 0) {
            int pick = dice.below(WILD.length + 2);
            return pick < WILD.length ? WILD[pick] : n + pick - WILD.length;
        }
        return dice.below(n);
    }

    private int aBox() {
        return up(Math.max(1, x.many(0)));
    }

    private int aPastDay() {
        return dice.below(3) == 0 ? x.many(8) : up(x.many(8) + 1);
    }

    private int aMark() {
        return dice.below(2) == 0 ? up(30) * 101 : up(10000);
    }

    private int aRead() {
        int box = dice.below(Math.max(1, x.many(0)));
        int mark = Math.max(0, x.of(box, 0));
        int read = mark * 10 + x.check(mark);
        int scale = new int[] {1, 10, 100, 1000, 10000}[dice.below(5)];
        return switch (dice.below(4)) {
            case 0 -> read;
            case 1 -> read - read / scale % 10 * scale + dice.below(10) * scale;
            case 2 -> dice.below(100000);
            default -> up(100000);
        };
    }

    private void due(String at, int which) {
        switch (which) {
            case 0 -> days(at);
            case 1 -> box(at);
            case 2 -> check(at);
            case 3 -> find(at);
            case 4 -> of(at);
            case 5, 6 -> word(at);
            case 7 -> where(at);
            case 8 -> quarrels(at);
            case 9 -> count(at);
            case 10 -> week(at);
            case 11 -> route(at);
            case 12 -> lack(at);
            case 13 -> due.is(at + " least()", x.least(), plain.least());
            case 14 -> worth(at);
            case 15 -> turn(at);
            case 16 -> leave(at);
            case 17 -> suits(at);
            case 18 -> match(at);
            case 19 -> clear(at);
            case 20 -> feed(at);
            case 21 -> text(at);
            case 22 -> lease(at);
            case 23 -> giveBack(at);
            case 24 -> writeOff(at);
            case 25 -> rate(at);
            case 26 -> use(at);
            case 27 -> strike(at);
            case 28 -> net(at);
            case 29 -> owes(at);
            case 30 -> many(at);
            case 31 -> keep(at);
            default -> back(at);
        }
    }

    private void days(String at) {
        int n = dice.below(4) == 0 ? up(32) : 1 + dice.below(longWait);
        if (dice.below(3) == 0) {
            due.is(at + " days(" + n + ")", x.days(n), plain.days(n));
        }
    }

    private void box(String at) {
        int mark = aMark();
        int kind = up(3);
        int line = up(4);
        int lease = up(4) - 1;
        due.is(at + " box(" + mark + ", " + kind + ", " + line + ", " + lease + ")",
                x.box(mark, kind, line, lease), plain.box(mark, kind, line, lease));
    }

    private void check(String at) {
        int mark = up(10000);
        due.is(at + " check(" + mark + ")", x.check(mark), plain.check(mark));
    }

    private void find(String at) {
        int read = aRead();
        due.is(at + " find(" + read + ")", x.find(read), plain.find(read));
    }

    private void of(String at) {
        int box = aBox();
        int what = up(7);
        due.is(at + " of(" + box + ", " + what + ")", x.of(box, what), plain.of(box, what));
    }

    private void word(String at) {
        int box = dice.below(2) == 0 ? 0 : aBox();
        int day = aPastDay();
        int place = up(6);
        int what = up(2);
        due.is(at + " word(" + box + ", " + day + ", " + place + ", " + what + ")",
                x.word(box, day, place, what), plain.word(box, day, place, what));
    }

    private void where(String at) {
        int box = aBox();
        int d = dice.below(2) == 0 ? aPastDay() : up(201);
        int k = aPastDay();
        due.is(at + " where(" + box + ", " + d + ", " + k + ")", x.where(box, d, k), plain.where(box, d, k));
        due.is(at + " since(" + box + ", " + d + ", " + k + ")", x.since(box, d, k), plain.since(box, d, k));
    }

    private void quarrels(String at) {
        int box = dice.below(2) == 0 ? 0 : aBox();
        int k = aPastDay();
        due.is(at + " quarrels(" + box + ", " + k + ")", x.quarrels(box, k), plain.quarrels(box, k));
    }

    private void count(String at) {
        int what = dice.below(2) == 0 ? up(7) : dice.below(4) * 10;
        due.is(at + " count(" + what + ")", x.count(what), plain.count(what));
    }

    private void week(String at) {
        int place = up(6);
        int week = up(5);
        int what = up(2);
        int v = up(10);
        due.is(at + " week(" + place + ", " + week + ", " + what + ", " + v + ")",
                x.week(place, week, what, v), plain.week(place, week, what, v));
    }

    private void route(String at) {
        int from = up(6);
        int to = up(6);
        int weeks = up(3);
        int cost = up(1000);
        due.is(at + " route(" + from + ", " + to + ", " + weeks + ", " + cost + ")",
                x.route(from, to, weeks, cost), plain.route(from, to, weeks, cost));
    }

    private void lack(String at) {
        int v = dice.below(3) == 0 ? up(501) : up(100);
        due.is(at + " lack(" + v + ")", x.lack(v), plain.lack(v));
    }

    private void worth(String at) {
        int place = up(6);
        int week = up(5);
        due.is(at + " worth(" + place + ", " + week + ")", x.worth(place, week), plain.worth(place, week));
    }

    private void turn(String at) {
        boolean want = dice.below(2) == 0;
        int place = up(3);
        int line = up(4);
        int kind = dice.below(3) > 0 ? 0 : up(3);
        int first = up(40);
        int last = first + up(40);
        due.is(at + " turn(" + want + ", " + place + ", " + line + ", " + kind + ", " + first + ", " + last + ")",
                x.turn(want, place, line, kind, first, last), plain.turn(want, place, line, kind, first, last));
    }

    private void leave(String at) {
        int line = up(4);
        int other = up(4);
        boolean is = dice.below(4) > 0;
        due.is(at + " leave(" + line + ", " + other + ", " + is + ")",
                x.leave(line, other, is), plain.leave(line, other, is));
    }

    private void suits(String at) {
        int offer = up(7);
        int want = up(7);
        due.is(at + " suits(" + offer + ", " + want + ")", x.suits(offer, want), plain.suits(offer, want));
    }

    private void match(String at) {
        int what = dice.below(2) == 0 ? up(2) : 10 + up(7);
        due.is(at + " match(" + what + ")", x.match(what), plain.match(what));
    }

    private void clear(String at) {
        if (dice.below(8) == 0) {
            due.is(at + " clear()", x.clear(), plain.clear());
        }
    }

    private void feed(String at) {
        if (dice.below(8) == 0) {
            long eight = dice.eight();
            int n = up(10);
            due.is(at + " feed(" + eight + ", " + n + ")", x.feed(eight, n), plain.feed(eight, n));
        }
    }

    private void text(String at) {
        StringBuilder text = new StringBuilder();
        boolean loose = dice.below(3) == 0;
        for (int parts = dice.below(6); parts > 0; parts--) {
            text.append(loose && dice.below(3) == 0 ? SIGNS[dice.below(SIGNS.length)] : clause());
        }
        if (loose && text.length() > 0 && dice.below(3) == 0) {
            text.setLength(dice.below(text.length()));
        }
        for (int i = 0; i < text.length(); i += 8) {
            long eight = dice.eight();
            int n = Math.min(8, text.length() - i);
            for (int j = 0; j < n; j++) {
                eight = (eight & ~(255L << 8 * j)) | (long) text.charAt(i + j) << 8 * j;
            }
            due.is(at + " feed(" + eight + ", " + n + ")", x.feed(eight, n), plain.feed(eight, n));
        }
        if (dice.below(12) > 0) {
            int lease = up(3);
            due.is(at + " read(" + lease + ") of '" + text + "'", x.read(lease), plain.read(lease));
        }
    }

    private String clause() {
        int which = dice.below(CLAUSES.length);
        String place = which >= 4 ? dice.below(6) + " " : "";
        int n = which == 5 ? dice.below(4) : dice.below(dice.below(2) == 0 ? 10 : 1000);
        String blank = dice.below(5) == 0 ? " " : "";
        return CLAUSES[which] + place + n + blank + ";" + blank;
    }

    private void lease(String at) {
        int lease = up(3);
        int what = up(3) * 10 + dice.below(7);
        due.is(at + " lease(" + lease + ", " + what + ")", x.lease(lease, what), plain.lease(lease, what));
    }

    private void giveBack(String at) {
        int box = aBox();
        int wear = up(10);
        due.is(at + " giveBack(" + box + ", " + wear + ")", x.giveBack(box, wear), plain.giveBack(box, wear));
    }

    private void writeOff(String at) {
        int box = aBox();
        if (dice.below(3) == 0) {
            due.is(at + " writeOff(" + box + ")", x.writeOff(box), plain.writeOff(box));
        }
    }

    private void rate(String at) {
        int what = up(2);
        int v = dice.below(2) == 0 ? up(11) : up(51);
        due.is(at + " rate(" + what + ", " + v + ")", x.rate(what, v), plain.rate(what, v));
    }

    private void use(String at) {
        int box = aBox();
        int line = up(4);
        int from = up(x.many(8) + 1);
        int to = aPastDay();
        due.is(at + " use(" + box + ", " + line + ", " + from + ", " + to + ")",
                x.use(box, line, from, to), plain.use(box, line, from, to));
    }

    private void strike(String at) {
        int use = up(Math.max(1, x.many(6)));
        if (dice.below(2) == 0) {
            due.is(at + " strike(" + use + ")", x.strike(use), plain.strike(use));
        }
    }

    private void net(String at) {
        int line = up(4);
        int k = aPastDay();
        due.is(at + " net(" + line + ", " + k + ")", x.net(line, k), plain.net(line, k));
    }

    private void owes(String at) {
        int line = up(4);
        int other = up(4);
        int k = aPastDay();
        due.is(at + " owes(" + line + ", " + other + ", " + k + ")",
                x.owes(line, other, k), plain.owes(line, other, k));
    }

    private void many(String at) {
        int what = up(12);
        due.is(at + " many(" + what + ")", x.many(what), plain.many(what));
    }

    private void keep(String at) {
        if (dice.below(2) == 0) {
            due.is(at + " keep()", x.keep(), plain.keep());
        }
    }

    private void back(String at) {
        if (dice.below(3) == 0) {
            due.is(at + " back()", x.back(), plain.back());
        }
    }
}
