/**
 * A line's desk for steel boxes that go full one way and come home empty. The calls stand in the
 * document's order; every one answers a number, and refusals are the negative constants.
 */
public final class EmptyBoxes {
    public static final int NUMBER = -1;
    public static final int FULL = -2;
    public static final int NONE = -3;
    public static final int STATE = -4;

    private static final int LAST_DAY = 200;
    private static final int MOST_DAYS_ON = 30;
    private static final int PLACES = 6;
    private static final int KINDS = 3;
    private static final int LINES = 4;
    private static final int LEASES = 3;
    private static final int WEEKS = 5;
    private static final int KNOTS = PLACES * WEEKS;
    private static final int DAYS_OF_WEEK = 7;
    private static final int LAST_MARK = 9999;
    private static final int LAST_READ = 99999;

    private static final int MOST_BOXES = 24;
    private static final int MOST_WORDS = 60;
    private static final int MOST_ROUTES = 10;
    private static final int MOST_TURNS = 7;
    private static final int MOST_USES = 40;
    private static final int MOST_BYTES = 120;

    // The first seven columns of a box are in the order in which of() is asked for them.
    private static final int BOX_MARK = 0;
    private static final int BOX_KIND = 1;
    private static final int BOX_LINE = 2;
    private static final int BOX_LEASE = 3;
    private static final int BOX_CAME = 4;
    private static final int BOX_FATE = 5;
    private static final int BOX_BILL = 6;
    private static final int BOX_BACK_DAY = 7;
    private static final int BOX_BACK_PLACE = 8;
    private static final int BOX_COLUMNS = 9;

    private static final int WITH_LINE = 0;
    private static final int GIVEN_BACK = 1;
    private static final int WRITTEN_OFF = 2;

    private static final int WORD_BOX = 0;
    private static final int WORD_DAY = 1;
    private static final int WORD_PLACE = 2;
    private static final int WORD_OUT = 3;
    private static final int WORD_KNOWN = 4;
    private static final int WORD_COLUMNS = 5;

    private static final int ON_WAY = 10;
    private static final int UNHEARD = 20;
    private static final int LATE = 30;
    private static final int LATE_BEHIND_DAYS = 20;

    private static final int WEEK_STOCK = 0;
    private static final int WEEK_NEED = 1;
    private static final int WEEK_COLUMNS = 2;

    private static final int ROUTE_FROM = 0;
    private static final int ROUTE_TO = 1;
    private static final int ROUTE_WEEKS = 2;
    private static final int ROUTE_COST = 3;
    private static final int ROUTE_ROOM = 4;
    private static final int ROUTE_COLUMNS = 5;
    private static final int ROOM_STEP = 100;

    private static final int TURN_PLACE = 0;
    private static final int TURN_LINE = 1;
    private static final int TURN_KIND = 2;
    private static final int TURN_FIRST = 3;
    private static final int TURN_LAST = 4;
    private static final int TURN_COLUMNS = 5;
    private static final int MATCH_WANT = 10;

    private static final int TERM_FREE = 0;
    private static final int TERM_DAY = 1;
    private static final int TERM_WORN = 2;
    private static final int TERM_LOST = 3;
    private static final int TERM_DROP = 4;
    private static final int TERM_ROOM = TERM_DROP + PLACES;
    private static final int TERMS = TERM_ROOM + PLACES;
    private static final int LEASE_WAS_READ = TERMS;
    private static final int LEASE_COLUMNS = TERMS + 1;
    private static final int ASK_DROP = 10;
    private static final int ASK_ROOM = 20;
    private static final int ROOM_WITHOUT = 999;
    private static final int FAULT_BASE = -100;

    private static final int USE_BOX = 0;
    private static final int USE_LINE = 1;
    private static final int USE_FROM = 2;
    private static final int USE_TO = 3;
    private static final int USE_KNOWN = 4;
    private static final int USE_STRUCK = 5;
    private static final int USE_COLUMNS = 6;
    private static final int NEVER = LAST_DAY + 1;
    private static final int NET_BASE = 1000000;

    private final Desk desk;
    private final Desk kept;
    private final Tape tape;
    private final LeaseText text;
    private final Plan plan;
    private final Matching matching;
    private boolean isKept;
    // The plan is dear, so it is made anew only when weeks, routes or LACK have changed.
    private boolean planStands;

    public EmptyBoxes() {
        desk = new Desk();
        kept = new Desk();
        tape = new Tape();
        text = new LeaseText();
        plan = new Plan();
        matching = new Matching();
        isKept = false;
        planStands = false;
    }

    // ---- boxes

    public int days(int n) {
        if (!isWithin(n, 1, MOST_DAYS_ON)) {
            return NUMBER;
        }
        if (desk.today + n > LAST_DAY) {
            return STATE;
        }
        desk.today += n;
        return desk.today;
    }

    public int box(int mark, int kind, int line, int lease) {
        if (!isMark(mark) || !isKind(kind) || !isLine(line) || !(lease == -1 || isLease(lease))) {
            return NUMBER;
        }
        if (boxOfMark(mark) >= 0 || (lease >= 0 && !wasRead(lease))) {
            return STATE;
        }
        if (desk.boxes.isFull()) {
            return FULL;
        }
        int box = desk.boxes.grow();
        desk.boxes.put(box, BOX_MARK, mark);
        desk.boxes.put(box, BOX_KIND, kind);
        desk.boxes.put(box, BOX_LINE, line);
        desk.boxes.put(box, BOX_LEASE, lease >= 0 ? lease : NONE);
        desk.boxes.put(box, BOX_CAME, desk.today);
        desk.boxes.put(box, BOX_FATE, WITH_LINE);
        desk.boxes.put(box, BOX_BILL, NONE);
        desk.boxes.put(box, BOX_BACK_DAY, NONE);
        desk.boxes.put(box, BOX_BACK_PLACE, NONE);
        return box;
    }

    public int check(int mark) {
        return isMark(mark) ? checkDigit(mark) : NUMBER;
    }

    public int find(int read) {
        if (!isWithin(read, 0, LAST_READ)) {
            return NUMBER;
        }
        int box = boxOfMark(read / 10);
        if (box >= 0 && fiveDigits(box) == read) {
            return box;
        }
        return onlyBoxNear(read);
    }

    public int of(int box, int what) {
        if (!desk.boxes.has(box) || !isWithin(what, BOX_MARK, BOX_BILL)) {
            return NUMBER;
        }
        return desk.boxes.cell(box, what);
    }

    private static boolean isWithin(int v, int low, int high) {
        return v >= low && v <= high;
    }

    private static boolean isMark(int mark) {
        return isWithin(mark, 0, LAST_MARK);
    }

    private static boolean isKind(int kind) {
        return isWithin(kind, 0, KINDS - 1);
    }

    private static boolean isLine(int line) {
        return isWithin(line, 0, LINES - 1);
    }

    private static boolean isLease(int lease) {
        return isWithin(lease, 0, LEASES - 1);
    }

    private static boolean isPlace(int place) {
        return isWithin(place, 0, PLACES - 1);
    }

    private static boolean isDay(int day) {
        return isWithin(day, 0, LAST_DAY);
    }

    private boolean isPastDay(int day) {
        return isWithin(day, 0, desk.today);
    }

    private static int checkDigit(int mark) {
        int sum = mark / 1000 + 2 * (mark / 100 % 10) + 4 * (mark / 10 % 10) + 8 * (mark % 10);
        return sum % 11 % 10;
    }

    private int boxOfMark(int mark) {
        for (int box = 0; box < desk.boxes.size(); box++) {
            if (desk.boxes.cell(box, BOX_MARK) == mark) {
                return box;
            }
        }
        return NONE;
    }

    private int fiveDigits(int box) {
        int mark = desk.boxes.cell(box, BOX_MARK);
        return mark * 10 + checkDigit(mark);
    }

    private int onlyBoxNear(int read) {
        int near = NONE;
        for (int box = 0; box < desk.boxes.size(); box++) {
            if (unlikeDigits(fiveDigits(box), read) == 1) {
                if (near >= 0) {
                    return NONE;
                }
                near = box;
            }
        }
        return near;
    }

    private static int unlikeDigits(int one, int other) {
        int unlike = 0;
        for (int scale = 1; scale <= 10000; scale *= 10) {
            if (one / scale % 10 != other / scale % 10) {
                unlike++;
            }
        }
        return unlike;
    }

    // ---- words

    public int word(int box, int day, int place, int what) {
        if (!desk.boxes.has(box) || !isPastDay(day) || !isPlace(place) || !isWithin(what, 0, 1)) {
            return NUMBER;
        }
        if (!isWithLine(box)) {
            return STATE;
        }
        if (desk.words.isFull()) {
            return FULL;
        }
        int word = desk.words.grow();
        desk.words.put(word, WORD_BOX, box);
        desk.words.put(word, WORD_DAY, day);
        desk.words.put(word, WORD_PLACE, place);
        desk.words.put(word, WORD_OUT, what);
        desk.words.put(word, WORD_KNOWN, desk.today);
        return word;
    }

    public int where(int box, int d, int k) {
        if (!desk.boxes.has(box) || !isDay(d) || !isPastDay(k)) {
            return NUMBER;
        }
        return standing(box, d, k);
    }

    public int since(int box, int d, int k) {
        if (!desk.boxes.has(box) || !isDay(d) || !isPastDay(k)) {
            return NUMBER;
        }
        int word = latestWord(box, d, k);
        return word >= 0 ? desk.words.cell(word, WORD_DAY) : NONE;
    }

    public int quarrels(int box, int k) {
        if (!desk.boxes.has(box) || !isPastDay(k)) {
            return NUMBER;
        }
        int found = 0;
        for (int word = 0; word < desk.words.size(); word++) {
            if (isHeard(word, box, k)) {
                int next = wordBehind(word, box, k);
                if (next >= 0 && isQuarrel(word, next)) {
                    found++;
                }
            }
        }
        return found;
    }

    public int count(int what) {
        if (!isPlace(what) && what != ON_WAY && what != UNHEARD && what != LATE) {
            return NUMBER;
        }
        int found = 0;
        for (int box = 0; box < desk.boxes.size(); box++) {
            if (isWithLine(box) && isCountedAs(box, what)) {
                found++;
            }
        }
        return found;
    }

    private boolean isWithLine(int box) {
        return desk.boxes.cell(box, BOX_FATE) == WITH_LINE;
    }

    private boolean isHeard(int word, int box, int k) {
        return desk.words.cell(word, WORD_BOX) == box && desk.words.cell(word, WORD_KNOWN) <= k;
    }

    private int latestWord(int box, int d, int k) {
        int latest = NONE;
        int latestDay = 0;
        for (int word = 0; word < desk.words.size(); word++) {
            int day = desk.words.cell(word, WORD_DAY);
            // Of like days the one told later wins, so a day that is the same replaces.
            if (isHeard(word, box, k) && day <= d && day >= latestDay) {
                latest = word;
                latestDay = day;
            }
        }
        return latest;
    }

    private int standing(int box, int d, int k) {
        int word = latestWord(box, d, k);
        if (word < 0) {
            return UNHEARD;
        }
        int place = desk.words.cell(word, WORD_PLACE);
        return isOut(word) ? ON_WAY + place : place;
    }

    private boolean isOut(int word) {
        return desk.words.cell(word, WORD_OUT) == 1;
    }

    private boolean isLateToday(int box) {
        int word = latestWord(box, desk.today, desk.today);
        return word >= 0 && isOut(word)
                && desk.today - desk.words.cell(word, WORD_DAY) > LATE_BEHIND_DAYS;
    }

    private boolean isCountedAs(int box, int what) {
        if (what == LATE) {
            return isLateToday(box);
        }
        int now = standing(box, desk.today, desk.today);
        return what == ON_WAY ? isWithin(now, ON_WAY, ON_WAY + PLACES - 1) : now == what;
    }

    /** The word that follows another one of a box, by days and then by numbers. */
    private int wordBehind(int word, int box, int k) {
        int next = NONE;
        for (int other = 0; other < desk.words.size(); other++) {
            if (isHeard(other, box, k) && isBehind(other, word)
                    && (next < 0 || isBehind(next, other))) {
                next = other;
            }
        }
        return next;
    }

    private boolean isBehind(int later, int earlier) {
        int laterDay = desk.words.cell(later, WORD_DAY);
        int earlierDay = desk.words.cell(earlier, WORD_DAY);
        return laterDay > earlierDay || (laterDay == earlierDay && later > earlier);
    }

    private boolean isQuarrel(int word, int next) {
        if (isOut(word)) {
            return isOut(next);
        }
        // Behind an IN both another IN and an OUT must be of the same place.
        return desk.words.cell(word, WORD_PLACE) != desk.words.cell(next, WORD_PLACE);
    }

    // ---- weeks

    public int week(int place, int week, int what, int v) {
        if (!isPlace(place) || !isWeek(week) || !isWithin(what, WEEK_STOCK, WEEK_NEED)
                || !isWithin(v, 0, 9)) {
            return NUMBER;
        }
        int knot = knotOf(place, week);
        int before = desk.weeks.cell(knot, what);
        desk.weeks.put(knot, what, v);
        planStands = false;
        return before;
    }

    public int route(int from, int to, int weeks, int cost) {
        if (!isPlace(from) || !isPlace(to) || from == to || !isWithin(weeks, 0, 2)
                || !isWithin(cost, 0, 999)) {
            return NUMBER;
        }
        if (desk.routes.isFull()) {
            return FULL;
        }
        int route = desk.routes.grow();
        desk.routes.put(route, ROUTE_FROM, from);
        desk.routes.put(route, ROUTE_TO, to);
        desk.routes.put(route, ROUTE_WEEKS, weeks);
        desk.routes.put(route, ROUTE_COST, cost % ROOM_STEP);
        desk.routes.put(route, ROUTE_ROOM, cost / ROOM_STEP);
        planStands = false;
        return route;
    }

    public int lack(int v) {
        if (!isWithin(v, 0, 500)) {
            return NUMBER;
        }
        int before = desk.lackCost;
        desk.lackCost = v;
        planStands = false;
        return before;
    }

    public int least() {
        makePlan();
        return plan.leastCost;
    }

    public int worth(int place, int week) {
        if (!isPlace(place) || !isWeek(week)) {
            return NUMBER;
        }
        makePlan();
        return plan.gainAt(knotOf(place, week));
    }

    private static boolean isWeek(int week) {
        return isWithin(week, 0, WEEKS - 1);
    }

    private static int knotOf(int place, int week) {
        return week * PLACES + place;
    }

    private void makePlan() {
        if (!planStands) {
            plan.solve(desk);
            planStands = true;
        }
    }

    // ---- street turns

    public int turn(boolean want, int place, int line, int kind, int first, int last) {
        if (!isPlace(place) || !isLine(line) || !isKind(kind) || !isDay(first) || !isDay(last)
                || last < first) {
            return NUMBER;
        }
        Table turns = want ? desk.wants : desk.offers;
        if (turns.isFull()) {
            return FULL;
        }
        int turn = turns.grow();
        turns.put(turn, TURN_PLACE, place);
        turns.put(turn, TURN_LINE, line);
        turns.put(turn, TURN_KIND, kind);
        turns.put(turn, TURN_FIRST, first);
        turns.put(turn, TURN_LAST, last);
        return turn;
    }

    public int leave(int line, int other, boolean is) {
        if (!isLine(line) || !isLine(other) || line == other) {
            return NUMBER;
        }
        if (hasLeave(line, other) == is) {
            return 0;
        }
        desk.leaves.put(line, other, is ? 1 : 0);
        desk.leaves.put(other, line, is ? 1 : 0);
        return 1;
    }

    public int suits(int offer, int want) {
        if (!desk.offers.has(offer) || !desk.wants.has(want)) {
            return NUMBER;
        }
        return isSuited(offer, want) ? 1 : 0;
    }

    public int match(int what) {
        boolean isOffer = what >= MATCH_WANT && desk.offers.has(what - MATCH_WANT);
        if (what != 0 && what != 1 && !isOffer) {
            return NUMBER;
        }
        makeMatch();
        if (what == 0) {
            return matching.pairs;
        }
        return what == 1 ? matching.gap : matching.wantOf(what - MATCH_WANT);
    }

    public int clear() {
        int gone = desk.offers.size() + desk.wants.size();
        desk.offers.empty();
        desk.wants.empty();
        return gone;
    }

    private boolean hasLeave(int line, int other) {
        return desk.leaves.cell(line, other) == 1;
    }

    private boolean isSuited(int offer, int want) {
        return desk.offers.cell(offer, TURN_KIND) == desk.wants.cell(want, TURN_KIND)
                && isSharing(desk.offers.cell(offer, TURN_LINE), desk.wants.cell(want, TURN_LINE))
                && desk.offers.cell(offer, TURN_FIRST) <= desk.wants.cell(want, TURN_LAST)
                && desk.wants.cell(want, TURN_FIRST) <= desk.offers.cell(offer, TURN_LAST)
                && isJoined(desk.offers.cell(offer, TURN_PLACE), desk.wants.cell(want, TURN_PLACE));
    }

    private boolean isSharing(int line, int other) {
        return line == other || hasLeave(line, other);
    }

    private boolean isJoined(int place, int other) {
        boolean joined = place == other;
        for (int route = 0; route < desk.routes.size() && !joined; route++) {
            int from = desk.routes.cell(route, ROUTE_FROM);
            int to = desk.routes.cell(route, ROUTE_TO);
            joined = (from == place && to == other) || (from == other && to == place);
        }
        return joined;
    }

    private void makeMatch() {
        matching.begin(desk.offers.size(), desk.wants.size());
        for (int offer = 0; offer < desk.offers.size(); offer++) {
            for (int want = 0; want < desk.wants.size(); want++) {
                if (isSuited(offer, want)) {
                    matching.allow(offer, want, gapBetween(offer, want));
                }
            }
        }
        matching.solve();
    }

    private int gapBetween(int offer, int want) {
        return Math.abs(desk.offers.cell(offer, TURN_FIRST) - desk.wants.cell(want, TURN_FIRST));
    }

    // ---- leases

    public int feed(long eight, int n) {
        if (!isWithin(n, 1, 8)) {
            return NUMBER;
        }
        if (tape.size() + n > MOST_BYTES) {
            return FULL;
        }
        for (int i = 0; i < n; i++) {
            tape.takeByte((int) (eight >>> (8 * i)) & 255);
        }
        return tape.size();
    }

    public int read(int lease) {
        if (!isLease(lease)) {
            tape.empty();
            return NUMBER;
        }
        boolean isText = text.parse(tape);
        tape.empty();
        if (!isText) {
            return FAULT_BASE - text.fault;
        }
        for (int term = 0; term < TERMS; term++) {
            desk.leases.put(lease, term, text.termOr(term, term >= TERM_ROOM ? ROOM_WITHOUT : 0));
        }
        desk.leases.put(lease, LEASE_WAS_READ, 1);
        return text.clauses;
    }

    public int lease(int lease, int what) {
        int term = askedTerm(what);
        if (!isLease(lease) || term < 0) {
            return NUMBER;
        }
        return wasRead(lease) ? desk.leases.cell(lease, term) : NONE;
    }

    public int giveBack(int box, int wear) {
        if (!desk.boxes.has(box) || !isWithin(wear, 0, 9)) {
            return NUMBER;
        }
        int place = standing(box, desk.today, desk.today);
        if (!isUnderLease(box) || !isPlace(place)) {
            return STATE;
        }
        int lease = desk.boxes.cell(box, BOX_LEASE);
        if (givenBackThisWeek(lease, place) >= desk.leases.cell(lease, TERM_ROOM + place)) {
            return FULL;
        }
        int bill = dayBill(box) + desk.leases.cell(lease, TERM_DROP + place)
                + desk.leases.cell(lease, TERM_WORN) * wear;
        desk.boxes.put(box, BOX_BACK_DAY, desk.today);
        desk.boxes.put(box, BOX_BACK_PLACE, place);
        return endLease(box, GIVEN_BACK, bill);
    }

    public int writeOff(int box) {
        if (!desk.boxes.has(box)) {
            return NUMBER;
        }
        boolean isUnheard = standing(box, desk.today, desk.today) == UNHEARD;
        if (!isUnderLease(box) || !(isUnheard || isLateToday(box))) {
            return STATE;
        }
        int lost = desk.leases.cell(desk.boxes.cell(box, BOX_LEASE), TERM_LOST);
        return endLease(box, WRITTEN_OFF, dayBill(box) + lost);
    }

    private boolean wasRead(int lease) {
        return desk.leases.cell(lease, LEASE_WAS_READ) == 1;
    }

    private static int askedTerm(int what) {
        if (isWithin(what, TERM_FREE, TERM_LOST)) {
            return what;
        }
        if (isWithin(what, ASK_DROP, ASK_DROP + PLACES - 1)) {
            return TERM_DROP + (what - ASK_DROP);
        }
        return isWithin(what, ASK_ROOM, ASK_ROOM + PLACES - 1) ? TERM_ROOM + (what - ASK_ROOM) : NONE;
    }

    private boolean isUnderLease(int box) {
        return desk.boxes.cell(box, BOX_LEASE) >= 0 && isWithLine(box);
    }

    private int givenBackThisWeek(int lease, int place) {
        int found = 0;
        for (int box = 0; box < desk.boxes.size(); box++) {
            if (desk.boxes.cell(box, BOX_FATE) == GIVEN_BACK
                    && desk.boxes.cell(box, BOX_LEASE) == lease
                    && desk.boxes.cell(box, BOX_BACK_PLACE) == place
                    && desk.boxes.cell(box, BOX_BACK_DAY) / DAYS_OF_WEEK == desk.today / DAYS_OF_WEEK) {
                found++;
            }
        }
        return found;
    }

    private int dayBill(int box) {
        int lease = desk.boxes.cell(box, BOX_LEASE);
        int days = desk.today - desk.boxes.cell(box, BOX_CAME) + 1;
        int paid = Math.max(0, days - desk.leases.cell(lease, TERM_FREE));
        return paid * desk.leases.cell(lease, TERM_DAY);
    }

    private int endLease(int box, int fate, int bill) {
        desk.boxes.put(box, BOX_FATE, fate);
        desk.boxes.put(box, BOX_BILL, bill);
        return bill;
    }

    // ---- the pool

    public int rate(int what, int v) {
        if (what == 0 && isWithin(v, 0, 50)) {
            int before = desk.dayRate;
            desk.dayRate = v;
            return before;
        }
        if (what == 1 && isWithin(v, 0, 10)) {
            int before = desk.freeDays;
            desk.freeDays = v;
            return before;
        }
        return NUMBER;
    }

    public int use(int box, int line, int from, int to) {
        if (!desk.boxes.has(box) || !isLine(line) || !isPastDay(from) || !isPastDay(to) || to < from) {
            return NUMBER;
        }
        if (desk.boxes.cell(box, BOX_LINE) == line) {
            return STATE;
        }
        if (desk.uses.isFull()) {
            return FULL;
        }
        int use = desk.uses.grow();
        desk.uses.put(use, USE_BOX, box);
        desk.uses.put(use, USE_LINE, line);
        desk.uses.put(use, USE_FROM, from);
        desk.uses.put(use, USE_TO, to);
        desk.uses.put(use, USE_KNOWN, desk.today);
        desk.uses.put(use, USE_STRUCK, NEVER);
        return use;
    }

    public int strike(int use) {
        if (!desk.uses.has(use)) {
            return NUMBER;
        }
        if (desk.uses.cell(use, USE_STRUCK) != NEVER) {
            return STATE;
        }
        desk.uses.put(use, USE_STRUCK, desk.today);
        return useWorth(use);
    }

    public int net(int line, int k) {
        if (!isLine(line) || !isPastDay(k)) {
            return NUMBER;
        }
        int sum = NET_BASE;
        for (int other = 0; other < LINES; other++) {
            sum += debt(other, line, k) - debt(line, other, k);
        }
        return sum;
    }

    public int owes(int line, int other, int k) {
        if (!isLine(line) || !isLine(other) || !isPastDay(k)) {
            return NUMBER;
        }
        return debt(line, other, k);
    }

    public int many(int what) {
        switch (what) {
            case 0: return desk.boxes.size();
            case 1: return desk.words.size();
            case 2: return desk.routes.size();
            case 3: return desk.offers.size();
            case 4: return desk.wants.size();
            case 5: return leasesRead();
            case 6: return desk.uses.size();
            case 7: return tape.size();
            case 8: return desk.today;
            case 9: return boxesOfFate(GIVEN_BACK);
            case 10: return boxesOfFate(WRITTEN_OFF);
            case 11: return allBills();
            default: return NUMBER;
        }
    }

    private int useWorth(int use) {
        int days = desk.uses.cell(use, USE_TO) - desk.uses.cell(use, USE_FROM) + 1;
        return Math.max(0, days - desk.freeDays) * desk.dayRate;
    }

    private boolean isUseKnown(int use, int k) {
        return desk.uses.cell(use, USE_KNOWN) <= k && desk.uses.cell(use, USE_STRUCK) > k;
    }

    private int debt(int line, int owner, int k) {
        int sum = 0;
        for (int use = 0; use < desk.uses.size(); use++) {
            int ownerOfUsed = desk.boxes.cell(desk.uses.cell(use, USE_BOX), BOX_LINE);
            if (desk.uses.cell(use, USE_LINE) == line && ownerOfUsed == owner && isUseKnown(use, k)) {
                sum += useWorth(use);
            }
        }
        return sum;
    }

    private int leasesRead() {
        int found = 0;
        for (int lease = 0; lease < LEASES; lease++) {
            if (wasRead(lease)) {
                found++;
            }
        }
        return found;
    }

    private int boxesOfFate(int fate) {
        int found = 0;
        for (int box = 0; box < desk.boxes.size(); box++) {
            if (desk.boxes.cell(box, BOX_FATE) == fate) {
                found++;
            }
        }
        return found;
    }

    private int allBills() {
        int sum = 0;
        for (int box = 0; box < desk.boxes.size(); box++) {
            sum += Math.max(0, desk.boxes.cell(box, BOX_BILL));
        }
        return sum;
    }

    // ---- kept

    public int keep() {
        kept.become(desk);
        isKept = true;
        return 1;
    }

    public int back() {
        if (!isKept) {
            return NONE;
        }
        desk.become(kept);
        planStands = false;
        return 1;
    }

    /** Rows of numbers in one array that is made once, so that no call takes room of its own. */
    private static final class Table {
        private final int[] cells;
        private final int columns;
        private final int most;
        private int rows;

        Table(int most, int columns) {
            this.most = Math.max(0, most);
            this.columns = Math.max(0, columns);
            this.cells = new int[this.most * this.columns];
            this.rows = 0;
        }

        boolean has(int row) {
            return row >= 0 && row < rows;
        }

        boolean isFull() {
            return rows >= most;
        }

        int size() {
            return rows;
        }

        int cell(int row, int column) {
            return holds(row, column) ? cells[row * columns + column] : NONE;
        }

        void put(int row, int column, int v) {
            if (holds(row, column)) {
                cells[row * columns + column] = v;
            }
        }

        /** The number of a new row; its cells are the caller's to put. */
        int grow() {
            if (isFull()) {
                return NONE;
            }
            rows++;
            return rows - 1;
        }

        void growToMost() {
            rows = most;
        }

        void empty() {
            rows = 0;
        }

        void become(Table other) {
            rows = Math.min(other.rows, most);
            System.arraycopy(other.cells, 0, cells, 0, Math.min(cells.length, other.cells.length));
        }

        private boolean holds(int row, int column) {
            return row >= 0 && row < rows && column >= 0 && column < columns;
        }
    }

    /** All that keep() keeps. */
    private static final class Desk {
        final Table boxes = new Table(MOST_BOXES, BOX_COLUMNS);
        final Table words = new Table(MOST_WORDS, WORD_COLUMNS);
        final Table weeks = new Table(KNOTS, WEEK_COLUMNS);
        final Table routes = new Table(MOST_ROUTES, ROUTE_COLUMNS);
        final Table offers = new Table(MOST_TURNS, TURN_COLUMNS);
        final Table wants = new Table(MOST_TURNS, TURN_COLUMNS);
        final Table leaves = new Table(LINES, LINES);
        final Table leases = new Table(LEASES, LEASE_COLUMNS);
        final Table uses = new Table(MOST_USES, USE_COLUMNS);
        int today;
        int lackCost;
        int dayRate;
        int freeDays;

        Desk() {
            weeks.growToMost();
            leaves.growToMost();
            leases.growToMost();
            today = 0;
            lackCost = 100;
            dayRate = 5;
            freeDays = 2;
        }

        void become(Desk other) {
            boxes.become(other.boxes);
            words.become(other.words);
            weeks.become(other.weeks);
            routes.become(other.routes);
            offers.become(other.offers);
            wants.become(other.wants);
            leaves.become(other.leaves);
            leases.become(other.leases);
            uses.become(other.uses);
            today = other.today;
            lackCost = other.lackCost;
            dayRate = other.dayRate;
            freeDays = other.freeDays;
        }
    }

    /**
     * THE LEAST, as a flow over knots (a PLACE in a WEEK) and arcs (a ROUTE, or to stay a WEEK).
     * Boxes are sent on one after another, each on the way of the greatest gain in what is left of
     * the arcs; arc e and the way back on it, e ^ 1, stand side by side. A box that is sent so never
     * has to be taken from a NEED again, so only the moves can be undone, not the uses.
     */
    private static final class Plan {
        private static final int STAY_ARCS = PLACES * (WEEKS - 1);
        private static final int MOST_ARCS = 2 * (STAY_ARCS + MOST_ROUTES * WEEKS);
        // More than all boxes of all weeks, so that staying has no bound.
        private static final int ROOM_TO_STAY = 1000;
        // Each send moves one box at least, and there are 9 a knot at most.
        private static final int MOST_SENDS = KNOTS * 9 + 1;

        private final int[] start = new int[MOST_ARCS];
        private final int[] end = new int[MOST_ARCS];
        private final int[] cost = new int[MOST_ARCS];
        private final int[] room = new int[MOST_ARCS];
        private final int[] idle = new int[KNOTS];
        private final int[] unmet = new int[KNOTS];
        private final int[] gain = new int[KNOTS];
        private final int[] way = new int[KNOTS];
        private int arcs;
        private int lackCost;
        int leastCost;

        int gainAt(int knot) {
            return isKnot(knot) ? gain[knot] : 0;
        }

        private static boolean isKnot(int knot) {
            return isWithin(knot, 0, KNOTS - 1);
        }

        void solve(Desk desk) {
            layKnots(desk);
            layArcs(desk.routes);
            reckonGains();
            for (int send = 0; send < MOST_SENDS; send++) {
                int knot = knotToSend();
                if (knot < 0) {
                    break;
                }
                sendFrom(knot);
                reckonGains();
            }
        }

        private void layKnots(Desk desk) {
            lackCost = desk.lackCost;
            leastCost = 0;
            for (int knot = 0; knot < KNOTS; knot++) {
                int stock = desk.weeks.cell(knot, WEEK_STOCK);
                int need = desk.weeks.cell(knot, WEEK_NEED);
                // A box can do no better than be used where it comes free.
                idle[knot] = Math.max(0, stock - need);
                unmet[knot] = Math.max(0, need - stock);
                leastCost += lackCost * unmet[knot];
            }
        }

        private void layArcs(Table routes) {
            arcs = 0;
            for (int week = WEEKS - 1; week >= 0; week--) {
                for (int route = 0; route < routes.size(); route++) {
                    int arrival = week + routes.cell(route, ROUTE_WEEKS);
                    if (arrival < WEEKS) {
                        layArc(knotOf(routes.cell(route, ROUTE_FROM), week),
                                knotOf(routes.cell(route, ROUTE_TO), arrival),
                                routes.cell(route, ROUTE_COST), routes.cell(route, ROUTE_ROOM));
                    }
                }
                for (int place = 0; place < PLACES && week + 1 < WEEKS; place++) {
                    layArc(knotOf(place, week), knotOf(place, week + 1), 0, ROOM_TO_STAY);
                }
            }
        }

        private void layArc(int from, int to, int price, int space) {
            // The ends are used as indexes later on, so no arc is laid to what is no knot.
            if (arcs + 1 < MOST_ARCS && isKnot(from) && isKnot(to)) {
                putArc(arcs, from, to, price, space);
                putArc(arcs + 1, to, from, -price, 0);
                arcs += 2;
            }
        }

        private void putArc(int arc, int from, int to, int price, int space) {
            start[arc] = from;
            end[arc] = to;
            cost[arc] = price;
            room[arc] = space;
        }

        /** What one box more would save at each knot, and by which arc it would leave (none: NONE). */
        private void reckonGains() {
            for (int knot = 0; knot < KNOTS; knot++) {
                gain[knot] = unmet[knot] > 0 ? lackCost : 0;
                way[knot] = NONE;
            }
            boolean changed = true;
            for (int round = 0; round <= KNOTS && changed; round++) {
                changed = false;
                for (int arc = 0; arc < arcs; arc++) {
                    if (room[arc] > 0 && gain[end[arc]] - cost[arc] > gain[start[arc]]) {
                        gain[start[arc]] = gain[end[arc]] - cost[arc];
                        way[start[arc]] = arc;
                        changed = true;
                    }
                }
            }
        }

        private int knotToSend() {
            for (int knot = 0; knot < KNOTS; knot++) {
                if (idle[knot] > 0 && gain[knot] > 0) {
                    return knot;
                }
            }
            return NONE;
        }

        private void sendFrom(int knot) {
            int boxes = boxesThatGo(knot);
            int last = knot;
            for (int step = 0; step < KNOTS && way[last] >= 0; step++) {
                int arc = way[last];
                room[arc] -= boxes;
                room[arc ^ 1] += boxes;
                last = end[arc];
            }
            // A box that ends where nothing is wanted is one that the new box set free.
            if (unmet[last] > 0) {
                unmet[last] -= boxes;
            }
            idle[knot] -= boxes;
            leastCost -= boxes * gain[knot];
        }

        private int boxesThatGo(int knot) {
            int boxes = idle[knot];
            int last = knot;
            for (int step = 0; step < KNOTS && way[last] >= 0; step++) {
                boxes = Math.min(boxes, room[way[last]]);
                last = end[way[last]];
            }
            return unmet[last] > 0 ? Math.min(boxes, unmet[last]) : boxes;
        }
    }

    /**
     * THE MATCH: for each row of OFFERS from one to the last, and each set of WANTS that are gone,
     * the best score of what can still be given; then, from the first OFFER on, the least WANT that
     * keeps the best score.
     */
    private static final class Matching {
        private static final int SETS = 1 << MOST_TURNS;
        // A pair more counts for more than all gaps together (7 times 200) can take away.
        private static final int PAIR_SCORE = 10000;

        private final int[] score = new int[MOST_TURNS * MOST_TURNS];
        private final int[] best = new int[(MOST_TURNS + 1) * SETS];
        private final int[] given = new int[MOST_TURNS];
        private int offers;
        private int wants;
        int pairs;
        int gap;

        void begin(int offers, int wants) {
            this.offers = Math.max(0, Math.min(offers, MOST_TURNS));
            this.wants = Math.max(0, Math.min(wants, MOST_TURNS));
            for (int pair = 0; pair < score.length; pair++) {
                score[pair] = NONE;
            }
        }

        void allow(int offer, int want, int days) {
            if (isWithin(offer, 0, offers - 1) && isWithin(want, 0, wants - 1)) {
                score[offer * MOST_TURNS + want] = PAIR_SCORE - days;
            }
        }

        int wantOf(int offer) {
            return isWithin(offer, 0, offers - 1) ? given[offer] : NONE;
        }

        void solve() {
            for (int gone = 0; gone < 1 << wants; gone++) {
                best[offers * SETS + gone] = 0;
            }
            for (int offer = offers - 1; offer >= 0; offer--) {
                for (int gone = 0; gone < 1 << wants; gone++) {
                    best[offer * SETS + gone] = bestFrom(offer, gone);
                }
            }
            pairs = 0;
            gap = 0;
            int gone = 0;
            for (int offer = 0; offer < offers; offer++) {
                given[offer] = leastBestWant(offer, gone);
                if (given[offer] >= 0) {
                    pairs++;
                    gap += PAIR_SCORE - score[offer * MOST_TURNS + given[offer]];
                    gone |= 1 << given[offer];
                }
            }
        }

        private int bestFrom(int offer, int gone) {
            int most = best[(offer + 1) * SETS + gone];
            for (int want = 0; want < wants; want++) {
                if (isOpen(offer, want, gone)) {
                    most = Math.max(most, scoreWith(offer, want, gone));
                }
            }
            return most;
        }

        private int leastBestWant(int offer, int gone) {
            for (int want = 0; want < wants; want++) {
                if (isOpen(offer, want, gone)
                        && scoreWith(offer, want, gone) == best[offer * SETS + gone]) {
                    return want;
                }
            }
            return NONE;
        }

        private boolean isOpen(int offer, int want, int gone) {
            return (gone & 1 << want) == 0 && score[offer * MOST_TURNS + want] >= 0;
        }

        private int scoreWith(int offer, int want, int gone) {
            return score[offer * MOST_TURNS + want] + best[(offer + 1) * SETS + (gone | 1 << want)];
        }
    }

    /** THE TAPE, and the WORD, NUMBER or other byte of it that is looked at. */
    private static final class Tape {
        private static final int BLANK = 32;
        private static final int MOST_DIGITS = 3;

        private final int[] bytes = new int[MOST_BYTES];
        private int many;
        private int first;
        private int behind;

        int size() {
            return many;
        }

        void takeByte(int b) {
            if (many < MOST_BYTES) {
                bytes[many] = b;
                many++;
            }
        }

        void empty() {
            many = 0;
        }

        void rewind() {
            first = 0;
            behind = 0;
        }

        /** Where the part that is looked at begins; at the end, how many bytes there are. */
        int place() {
            return first;
        }

        boolean isAtEnd() {
            return first >= many;
        }

        /** Looks at the next WORD, NUMBER or other byte; false at the end. */
        boolean advance() {
            while (behind < many && bytes[behind] == BLANK) {
                behind++;
            }
            first = behind;
            if (first < many && isLetter(bytes[first])) {
                while (behind < many && isLetter(bytes[behind])) {
                    behind++;
                }
            } else if (first < many && isDigit(bytes[first])) {
                while (behind < many && isDigit(bytes[behind])) {
                    behind++;
                }
            } else if (first < many) {
                behind++;
            }
            return !isAtEnd();
        }

        boolean says(String sign) {
            if (behind - first != sign.length()) {
                return false;
            }
            for (int i = 0; i < sign.length() && first + i < many; i++) {
                if (bytes[first + i] != sign.charAt(i)) {
                    return false;
                }
            }
            return true;
        }

        /** The NUMBER that is looked at; NONE if it is no NUMBER. */
        int number() {
            if (isAtEnd() || !isDigit(bytes[first]) || behind - first > MOST_DIGITS) {
                return NONE;
            }
            int v = 0;
            for (int i = first; i < behind && i < many; i++) {
                v = v * 10 + (bytes[i] - '0');
            }
            return v;
        }

        private static boolean isLetter(int b) {
            return b >= 'a' && b <= 'z';
        }

        private static boolean isDigit(int b) {
            return b >= '0' && b <= '9';
        }
    }

    /** The CLAUSES of a TEXT, told apart from the LEASE so that a TEXT with a FAULT changes none. */
    private static final class LeaseText {
        private final int[] told = new int[TERMS];
        int clauses;
        int fault;

        /** Whether THE TAPE is a TEXT; if not, fault says where. */
        boolean parse(Tape tape) {
            for (int term = 0; term < TERMS; term++) {
                told[term] = NONE;
            }
            clauses = 0;
            fault = 0;
            tape.rewind();
            // Each clause takes a term of its own, so one more than the terms is never right.
            for (int i = 0; i <= TERMS; i++) {
                if (!tape.advance()) {
                    return true;
                }
                if (!parseClause(tape)) {
                    fault = tape.place();
                    return false;
                }
                clauses++;
            }
            return false;
        }

        int termOr(int term, int without) {
            boolean isTold = term >= 0 && term < TERMS && told[term] >= 0;
            return isTold ? told[term] : without;
        }

        /** Where it answers false, the tape stands at the FAULT. */
        private boolean parseClause(Tape tape) {
            int term = termSaid(tape);
            if (term == TERM_DROP || term == TERM_ROOM) {
                tape.advance();
                int place = tape.number();
                term = isPlace(place) ? term + place : NONE;
            }
            if (term < 0 || told[term] >= 0) {
                return false;
            }
            tape.advance();
            told[term] = tape.number();
            if (told[term] < 0) {
                return false;
            }
            tape.advance();
            return tape.says(";");
        }

        private static int termSaid(Tape tape) {
            if (tape.says("free")) {
                return TERM_FREE;
            }
            if (tape.says("day")) {
                return TERM_DAY;
            }
            if (tape.says("worn")) {
                return TERM_WORN;
            }
            if (tape.says("lost")) {
                return TERM_LOST;
            }
            if (tape.says("drop")) {
                return TERM_DROP;
            }
            return tape.says("room") ? TERM_ROOM : NONE;
        }
    }
}
