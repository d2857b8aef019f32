import java.util.ArrayList;
import java.util.List;

/**
 * THE LEAST by another way than the program's: a circulation in which every circle of negative cost
 * is filled until there is none left.
 */
final class PlainWeeks {
    final int[][][] amounts = new int[2][6][5];
    final List<int[]> routes = new ArrayList<>();
    int lack = 100;

    private static final int SOURCE = 30;
    private static final int SINK = 31;
    private final List<int[]> arcs = new ArrayList<>();

    PlainWeeks copy() {
        PlainWeeks other = new PlainWeeks();
        for (int what = 0; what < 2; what++) {
            for (int place = 0; place < 6; place++) {
                other.amounts[what][place] = amounts[what][place].clone();
            }
        }
        other.routes.addAll(routes);
        other.lack = lack;
        return other;
    }

    int least() {
        arcs.clear();
        int needs = 0;
        for (int place = 0; place < 6; place++) {
            for (int week = 0; week < 5; week++) {
                int node = place * 5 + week;
                arc(SOURCE, node, amounts[0][place][week], 0);
                arc(node, SINK, amounts[1][place][week], -lack);
                needs += amounts[1][place][week];
                if (week < 4) {
                    arc(node, node + 1, 100000, 0);
                }
            }
        }
        for (int[] route : routes) {
            for (int week = 0; week + route[2] <= 4; week++) {
                arc(route[0] * 5 + week, route[1] * 5 + week + route[2], route[4], route[3]);
            }
        }
        arc(SINK, SOURCE, 100000, 0);
        int cost = needs * lack;
        for (int spared = fillCircle(); spared < 0; spared = fillCircle()) {
            cost += spared;
        }
        return cost;
    }

    private void arc(int from, int to, int room, int cost) {
        arcs.add(new int[] {from, to, room, cost});
        arcs.add(new int[] {to, from, 0, -cost});
    }

    /** Fills one circle of negative cost: by how much the cost changes (0: there is none). */
    private int fillCircle() {
        int[] distance = new int[32];
        int[] by = new int[32];
        int last = -1;
        for (int round = 0; round < 32; round++) {
            last = -1;
            for (int i = 0; i < arcs.size(); i++) {
                int[] a = arcs.get(i);
                if (a[2] > 0 && distance[a[0]] + a[3] < distance[a[1]]) {
                    distance[a[1]] = distance[a[0]] + a[3];
                    by[a[1]] = i;
                    last = a[1];
                }
            }
            if (last < 0) {
                return 0;
            }
        }
        for (int i = 0; i < 32; i++) {
            last = arcs.get(by[last])[0];
        }
        int room = Integer.MAX_VALUE;
        int cost = 0;
        int node = last;
        do {
            int[] a = arcs.get(by[node]);
            room = Math.min(room, a[2]);
            cost += a[3];
            node = a[0];
        } while (node != last);
        do {
            int[] a = arcs.get(by[node]);
            a[2] -= room;
            arcs.get(by[node] ^ 1)[2] += room;
            node = a[0];
        } while (node != last);
        return cost * room;
    }
}
