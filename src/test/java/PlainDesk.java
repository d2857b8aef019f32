import java.util.ArrayList;
import java.util.Comparator;
import java.util.List;
import java.util.regex.Matcher;
import java.util.regex.Pattern;

/** The document once more, in lists and sorted rows, without regard to room or speed. */
final class PlainDesk {
    static final int NUMBER = -1;
    static final int FULL = -2;
    static final int NONE = -3;
    static final int STATE = -4;

    /** Rows hold what their calls were told, with the day behind; see each call. */
    static final class State {
        int today;
        List<int[]> boxes = new ArrayList<>();
        List<int[]> words = new ArrayList<>();
        PlainWeeks weeks = new PlainWeeks();
        List<int[]> offers = new ArrayList<>();
        List<int[]> wants = new ArrayList<>();
        boolean[][] leave = new boolean[4][4];
        int[][] leases = new int[3][];
        List<int[]> uses = new ArrayList<>();
        int rate = 5;
        int free = 2;

        State copy() {
            State s = new State();
            s.today = today;
            s.boxes = copyRows(boxes);
            s.words = copyRows(words);
            s.weeks = weeks.copy();
            s.offers = copyRows(offers);
            s.wants = copyRows(wants);
            for (int i = 0; i < 4; i++) {
                s.leave[i] = leave[i].clone();
            }
            s.leases = leases.clone();
            s.uses = copyRows(uses);
            s.rate = rate;
            s.free = free;
            return s;
        }

        private static List<int[]> copyRows(List<int[]> rows) {
            List<int[]> copies = new ArrayList<>();
            for (int[] row : rows) {
                copies.add(row.clone());
            }
            return copies;
        }
    }

    private State s = new State();
    private State kept;
    private StringBuilder tape = new StringBuilder();

    private static boolean out(int v, int low, int high) {
        return v < low || v > high;
    }

    private boolean noBox(int box) {
        return out(box, 0, s.boxes.size() - 1);
    }

    int days(int n) {
        if (out(n, 1, 30)) return NUMBER;
        if (s.today + n > 200) return STATE;
        return s.today += n;
    }

    /** mark, kind, line, lease (NONE), came, fate, bill (NONE), day and place of giving back. */
    int box(int mark, int kind, int line, int lease) {
        if (out(mark, 0, 9999) || out(kind, 0, 2) || out(line, 0, 3) || out(lease, -1, 2)) return NUMBER;
        if (s.boxes.stream().anyMatch(b -> b[0] == mark)) return STATE;
        if (lease != -1 && s.leases[lease] == null) return STATE;
        if (s.boxes.size() == 24) return FULL;
        s.boxes.add(new int[] {mark, kind, line, lease == -1 ? NONE : lease, s.today, 0, NONE, 0, 0});
        return s.boxes.size() - 1;
    }

    int check(int mark) {
        if (out(mark, 0, 9999)) return NUMBER;
        int sum = 0;
        int weight = 8;
        for (int rest = mark; weight > 0; rest /= 10, weight /= 2) {
            sum += weight * (rest % 10);
        }
        return sum % 11 % 10;
    }

    int find(int read) {
        if (out(read, 0, 99999)) return NUMBER;
        String digits = String.format("%05d", read);
        List<Integer> near = new ArrayList<>();
        for (int box = 0; box < s.boxes.size(); box++) {
            int mark = s.boxes.get(box)[0];
            String own = String.format("%04d%d", mark, check(mark));
            int unlike = 0;
            for (int i = 0; i < 5; i++) {
                unlike += own.charAt(i) == digits.charAt(i) ? 0 : 1;
            }
            if (unlike == 0) return box;
            if (unlike == 1) near.add(box);
        }
        return near.size() == 1 ? near.get(0) : NONE;
    }

    int of(int box, int what) {
        return noBox(box) || out(what, 0, 6) ? NUMBER : s.boxes.get(box)[what];
    }

    /** box, day, place, out, known, number. */
    int word(int box, int day, int place, int what) {
        if (noBox(box) || out(day, 0, s.today) || out(place, 0, 5) || out(what, 0, 1)) return NUMBER;
        if (s.boxes.get(box)[5] != 0) return STATE;
        if (s.words.size() == 60) return FULL;
        s.words.add(new int[] {box, day, place, what, s.today, s.words.size()});
        return s.words.size() - 1;
    }

    private List<int[]> heard(int box, int d, int k) {
        return s.words.stream().filter(w -> w[0] == box && w[1] <= d && w[4] <= k)
                .sorted(Comparator.<int[]>comparingInt(w -> w[1]).thenComparingInt(w -> w[5])).toList();
    }

    int where(int box, int d, int k) {
        if (noBox(box) || out(d, 0, 200) || out(k, 0, s.today)) return NUMBER;
        List<int[]> words = heard(box, d, k);
        if (words.isEmpty()) return 20;
        int[] last = words.get(words.size() - 1);
        return last[2] + 10 * last[3];
    }

    int since(int box, int d, int k) {
        if (noBox(box) || out(d, 0, 200) || out(k, 0, s.today)) return NUMBER;
        List<int[]> words = heard(box, d, k);
        return words.isEmpty() ? NONE : words.get(words.size() - 1)[1];
    }

    int quarrels(int box, int k) {
        if (noBox(box) || out(k, 0, s.today)) return NUMBER;
        List<int[]> words = heard(box, 200, k);
        int found = 0;
        for (int i = 1; i < words.size(); i++) {
            int[] a = words.get(i - 1);
            int[] b = words.get(i);
            boolean bothIn = a[3] == 0 && b[3] == 0 && a[2] != b[2];
            boolean bothOut = a[3] == 1 && b[3] == 1;
            boolean outOfAnother = a[3] == 0 && b[3] == 1 && a[2] != b[2];
            found += bothIn || bothOut || outOfAnother ? 1 : 0;
        }
        return found;
    }

    private boolean late(int box) {
        int where = where(box, s.today, s.today);
        return where >= 10 && where < 20 && s.today - since(box, s.today, s.today) > 20;
    }

    int count(int what) {
        if (out(what, 0, 5) && what != 10 && what != 20 && what != 30) return NUMBER;
        int found = 0;
        for (int box = 0; box < s.boxes.size(); box++) {
            int where = where(box, s.today, s.today);
            if (s.boxes.get(box)[5] == 0) {
                if (what == 30) {
                    found += late(box) ? 1 : 0;
                } else {
                    found += (where >= 10 ? where / 10 * 10 : where) == what ? 1 : 0;
                }
            }
        }
        return found;
    }

    int week(int place, int week, int what, int v) {
        if (out(place, 0, 5) || out(week, 0, 4) || out(what, 0, 1) || out(v, 0, 9)) return NUMBER;
        int was = s.weeks.amounts[what][place][week];
        s.weeks.amounts[what][place][week] = v;
        return was;
    }

    int route(int from, int to, int weeks, int cost) {
        if (out(from, 0, 5) || out(to, 0, 5) || from == to || out(weeks, 0, 2) || out(cost, 0, 999)) return NUMBER;
        if (s.weeks.routes.size() == 10) return FULL;
        s.weeks.routes.add(new int[] {from, to, weeks, cost % 100, cost / 100});
        return s.weeks.routes.size() - 1;
    }

    int lack(int v) {
        if (out(v, 0, 500)) return NUMBER;
        int was = s.weeks.lack;
        s.weeks.lack = v;
        return was;
    }

    int least() {
        return s.weeks.least();
    }

    int worth(int place, int week) {
        if (out(place, 0, 5) || out(week, 0, 4)) return NUMBER;
        int least = s.weeks.least();
        s.weeks.amounts[0][place][week]++;
        int with = s.weeks.least();
        s.weeks.amounts[0][place][week]--;
        return least - with;
    }

    /** place, line, kind, first, last. */
    int turn(boolean want, int place, int line, int kind, int first, int last) {
        if (out(place, 0, 5) || out(line, 0, 3) || out(kind, 0, 2) || out(first, 0, 200) || out(last, first, 200)) {
            return NUMBER;
        }
        List<int[]> turns = want ? s.wants : s.offers;
        if (turns.size() == 7) return FULL;
        turns.add(new int[] {place, line, kind, first, last});
        return turns.size() - 1;
    }

    int leave(int line, int other, boolean is) {
        if (out(line, 0, 3) || out(other, 0, 3) || line == other) return NUMBER;
        boolean was = s.leave[line][other];
        s.leave[line][other] = is;
        s.leave[other][line] = is;
        return was != is ? 1 : 0;
    }

    int suits(int offer, int want) {
        if (out(offer, 0, s.offers.size() - 1) || out(want, 0, s.wants.size() - 1)) return NUMBER;
        int[] o = s.offers.get(offer);
        int[] w = s.wants.get(want);
        if (o[2] != w[2] || (o[1] != w[1] && !s.leave[o[1]][w[1]])) return 0;
        if (Math.max(o[3], w[3]) > Math.min(o[4], w[4])) return 0;
        boolean route = s.weeks.routes.stream().anyMatch(r ->
                (r[0] == o[0] && r[1] == w[0]) || (r[0] == w[0] && r[1] == o[0]));
        return o[0] == w[0] || route ? 1 : 0;
    }

    int match(int what) {
        if (what != 0 && what != 1 && out(what, 10, 9 + s.offers.size())) return NUMBER;
        boolean[][] suits = new boolean[s.offers.size()][s.wants.size()];
        int[] firstDays = new int[14];
        for (int o = 0; o < s.offers.size(); o++) {
            firstDays[o] = s.offers.get(o)[3];
            for (int w = 0; w < s.wants.size(); w++) {
                firstDays[7 + w] = s.wants.get(w)[3];
                suits[o][w] = suits(o, w) == 1;
            }
        }
        int[] best = PlainMatch.best(suits, s.offers.size(), s.wants.size(), firstDays);
        return best[what < 2 ? what : what - 8];
    }

    int clear() {
        int gone = s.offers.size() + s.wants.size();
        s.offers.clear();
        s.wants.clear();
        return gone;
    }

    int feed(long eight, int n) {
        if (out(n, 1, 8)) return NUMBER;
        if (tape.length() + n > 120) return FULL;
        for (long i = 0, rest = eight; i < n; i++, rest >>= 8) {
            tape.append((char) (rest & 255));
        }
        return tape.length();
    }

    int read(int lease) {
        String text = tape.toString();
        tape.setLength(0);
        if (out(lease, 0, 2)) return NUMBER;
        int[] terms = new int[26];
        java.util.Arrays.fill(terms, 20, 26, 999);
        int answer = readText(text, terms);
        if (answer >= 0) s.leases[lease] = terms;
        return answer;
    }

    /** A step for each part: WORD, P (of drop and room), NUMBER, then a ; and the next one. */
    private static int readText(String text, int[] terms) {
        boolean[] there = new boolean[26];
        int clauses = 0;
        int term = -1;
        int step = 0;
        Matcher m = Pattern.compile(" *([a-z]+|[0-9]+|[^ ])", Pattern.DOTALL).matcher(text);
        while (m.lookingAt()) {
            String part = m.group(1);
            int fault = -100 - m.start(1);
            int number = part.matches("[0-9]{1,3}") ? Integer.parseInt(part) : -1;
            if (step == 0) {
                term = List.of("free", "day", "worn", "lost").indexOf(part);
                if (term < 0 && !part.equals("drop") && !part.equals("room")) return fault;
                if (term >= 0 && there[term]) return fault;
                if (term < 0) term = part.equals("drop") ? 10 : 20;
                step = term >= 10 ? 1 : 2;
            } else if (step == 1) {
                if (out(number, 0, 5) || there[term + number]) return fault;
                term += number;
                step = 2;
            } else if (step == 2) {
                if (number < 0) return fault;
                terms[term] = number;
                there[term] = true;
                step = 3;
            } else {
                if (!part.equals(";")) return fault;
                clauses++;
                step = 0;
            }
            m.region(m.end(), text.length());
        }
        return step == 0 ? clauses : -100 - text.length();
    }

    int lease(int lease, int what) {
        boolean known = !out(what, 0, 3) || !out(what, 10, 15) || !out(what, 20, 25);
        if (out(lease, 0, 2) || !known) return NUMBER;
        return s.leases[lease] == null ? NONE : s.leases[lease][what];
    }

    private int dayBill(int[] box) {
        int[] terms = s.leases[box[3]];
        int bill = 0;
        for (int day = box[4] + terms[0]; day <= s.today; day++) {
            bill += terms[1];
        }
        return bill;
    }

    int giveBack(int number, int wear) {
        if (noBox(number) || out(wear, 0, 9)) return NUMBER;
        int[] box = s.boxes.get(number);
        int place = where(number, s.today, s.today);
        if (box[3] == NONE || box[5] != 0 || place >= 10) return STATE;
        int[] terms = s.leases[box[3]];
        long there = s.boxes.stream().filter(b -> b[5] == 1 && b[3] == box[3] && b[8] == place
                && b[7] / 7 == s.today / 7).count();
        if (there >= terms[20 + place]) return FULL;
        box[6] = dayBill(box) + terms[10 + place] + wear * terms[2];
        box[5] = 1;
        box[7] = s.today;
        box[8] = place;
        return box[6];
    }

    int writeOff(int number) {
        if (noBox(number)) return NUMBER;
        int[] box = s.boxes.get(number);
        if (box[3] == NONE || box[5] != 0) return STATE;
        if (!late(number) && where(number, s.today, s.today) != 20) return STATE;
        box[6] = dayBill(box) + s.leases[box[3]][3];
        box[5] = 2;
        return box[6];
    }

    int rate(int what, int v) {
        if (out(what, 0, 1) || out(v, 0, what == 0 ? 50 : 10)) return NUMBER;
        int was = what == 0 ? s.rate : s.free;
        if (what == 0) {
            s.rate = v;
        } else {
            s.free = v;
        }
        return was;
    }

    /** box, line, from, to, known, struck. */
    int use(int box, int line, int from, int to) {
        if (noBox(box) || out(line, 0, 3) || out(from, 0, s.today) || out(to, from, s.today)) return NUMBER;
        if (s.boxes.get(box)[2] == line) return STATE;
        if (s.uses.size() == 40) return FULL;
        s.uses.add(new int[] {box, line, from, to, s.today, 1000});
        return s.uses.size() - 1;
    }

    private int worthOf(int[] use) {
        int sum = 0;
        for (int day = use[2] + s.free; day <= use[3]; day++) {
            sum += s.rate;
        }
        return sum;
    }

    int strike(int use) {
        if (out(use, 0, s.uses.size() - 1)) return NUMBER;
        if (s.uses.get(use)[5] != 1000) return STATE;
        s.uses.get(use)[5] = s.today;
        return worthOf(s.uses.get(use));
    }

    int net(int line, int k) {
        if (out(line, 0, 3) || out(k, 0, s.today)) return NUMBER;
        int sum = 1000000;
        for (int[] use : s.uses) {
            if (use[4] <= k && k < use[5]) {
                sum += s.boxes.get(use[0])[2] == line ? worthOf(use) : 0;
                sum -= use[1] == line ? worthOf(use) : 0;
            }
        }
        return sum;
    }

    int owes(int line, int other, int k) {
        if (out(line, 0, 3) || out(other, 0, 3) || out(k, 0, s.today)) return NUMBER;
        int sum = 0;
        for (int[] use : s.uses) {
            if (use[4] <= k && k < use[5] && use[1] == line && s.boxes.get(use[0])[2] == other) {
                sum += worthOf(use);
            }
        }
        return sum;
    }

    int many(int what) {
        int read = 0;
        for (int[] lease : s.leases) {
            read += lease != null ? 1 : 0;
        }
        int back = 0;
        int off = 0;
        int bills = 0;
        for (int[] box : s.boxes) {
            back += box[5] == 1 ? 1 : 0;
            off += box[5] == 2 ? 1 : 0;
            bills += box[5] != 0 ? box[6] : 0;
        }
        int[] all = {s.boxes.size(), s.words.size(), s.weeks.routes.size(), s.offers.size(), s.wants.size(), read,
            s.uses.size(), tape.length(), s.today, back, off, bills};
        return out(what, 0, 11) ? NUMBER : all[what];
    }

    int keep() {
        kept = s.copy();
        return 1;
    }

    int back() {
        if (kept == null) return NONE;
        s = kept.copy();
        return 1;
    }
}
