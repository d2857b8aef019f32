/** Compares answers with those that are due, as the tests under ../shared/tests do. */
final class Due {
    private final String test;
    private int asked;
    private int wrong;

    Due(String test) {
        this.test = test;
    }

    void is(String call, long got, long want) {
        asked++;
        if (got != want) {
            wrong++;
            System.out.println(test + ": " + call + " answered " + got + ", due is " + want);
        }
    }

    void is(String call, String got, String want) {
        asked++;
        if (!got.equals(want)) {
            wrong++;
            System.out.println(test + ": " + call + " answered " + got + ", due is " + want);
        }
    }

    boolean allRight() {
        return wrong == 0;
    }

    void end() {
        System.out.println(test + ": " + asked + " answers, " + wrong + " not as due");
        if (wrong != 0 || asked == 0) {
            System.exit(1);
        }
    }

    /** All that can be asked of an object without changing it, as one text. */
    static String picture(EmptyBoxes x) {
        StringBuilder s = new StringBuilder();
        int today = x.many(8);
        for (int what = 0; what <= 11; what++) {
            s.append(x.many(what)).append(' ');
        }
        s.append('|');
        for (int box = 0; box < x.many(0); box++) {
            for (int what = 0; what <= 6; what++) {
                s.append(x.of(box, what)).append(' ');
            }
            for (int k = 0; k <= today; k += 1 + today / 4) {
                for (int d = 0; d <= 200; d += 20) {
                    s.append(x.where(box, d, k)).append('s').append(x.since(box, d, k)).append(' ');
                }
                s.append('q').append(x.quarrels(box, k)).append(' ');
            }
        }
        s.append('|').append(x.least()).append('|');
        for (int place = 0; place < 6; place++) {
            for (int week = 0; week < 5; week++) {
                s.append(x.worth(place, week)).append(' ');
            }
        }
        s.append('|').append(x.match(0)).append(' ').append(x.match(1)).append(' ');
        for (int offer = 0; offer < x.many(3); offer++) {
            s.append(x.match(10 + offer)).append(' ');
            for (int want = 0; want < x.many(4); want++) {
                s.append(x.suits(offer, want));
            }
        }
        s.append('|');
        for (int lease = 0; lease < 3; lease++) {
            for (int what = 0; what < 26; what++) {
                s.append(x.lease(lease, what)).append(' ');
            }
        }
        s.append('|');
        for (int line = 0; line < 4; line++) {
            s.append(x.net(line, today)).append(' ').append(x.net(line, 0)).append(' ');
            for (int other = 0; other < 4; other++) {
                s.append(x.owes(line, other, today)).append(' ').append(x.owes(line, other, 0)).append(' ');
            }
        }
        return s.toString();
    }

    /** Feeds a text whose characters are bytes. */
    static int feed(EmptyBoxes x, String text) {
        int answer = x.many(7);
        for (int at = 0; at < text.length(); at += 8) {
            int n = Math.min(8, text.length() - at);
            // What stands above the n bytes must not matter, so it is filled.
            long eight = n == 8 ? 0 : -1L << (8 * n);
            for (int i = 0; i < n; i++) {
                eight |= (long) (text.charAt(at + i) & 255) << (8 * i);
            }
            answer = x.feed(eight, n);
        }
        return answer;
    }

    static int read(EmptyBoxes x, int lease, String text) {
        feed(x, text);
        return x.read(lease);
    }
}
