import java.util.function.Supplier;

/** The edges of promises 7 (word) to 11 (count). */
final class EdgesOfWords {
    private static final int NUMBER = EmptyBoxes.NUMBER;
    private static final int FULL = EmptyBoxes.FULL;
    private static final int NONE = EmptyBoxes.NONE;
    private static final int STATE = EmptyBoxes.STATE;
    private static final int IN = 0;
    private static final int OUT = 1;

    private final Edges e;

    EdgesOfWords(Edges e) {
        this.e = e;
    }

    void run() {
        word();
        wordRefusals();
        where();
        whereLatest();
        since();
        quarrels();
        quarrelsInOrder();
        count();
        late();
    }

    /** One BOX on a DAY. */
    private static EmptyBoxes boxOn(int day) {
        EmptyBoxes x = Scenes.on(day);
        x.box(1, 0, 0, -1);
        return x;
    }

    private void word() {
        e.test(7, "A WORD: its number.", () -> {
            EmptyBoxes x = boxOn(0);
            e.is("the first", x.word(0, 0, 0, IN), 0);
            e.is("a refused one takes no number", x.word(0, 1, 0, IN), NUMBER);
            e.is("the second", x.word(0, 0, 0, IN), 1);
        });
        e.test(7, "WORDS, 60 at most, are numbered from 0 as they come", () -> {
            EmptyBoxes x = boxOn(0);
            x.box(2, 0, 0, -1);
            for (int number = 0; number < 60; number++) {
                e.is("WORD " + number, x.word(number % 2, 0, 0, IN), number);
            }
            e.is("the 61st", x.word(0, 0, 5, OUT), FULL);
            e.is("many(1)", x.many(1), 60);
            e.is("the 60th counts", x.where(1, 0, 0), 0);
        });
        e.test(7, "of a BOX, a DAY (not behind TODAY), a PLACE, and what: 0 it came IN, 1 it went OUT", () -> {
            EmptyBoxes x = boxOn(9);
            e.is("of DAY 0, ahead of that on which it came", x.word(0, 0, 4, OUT), 0);
            e.is("of TODAY", x.word(0, 9, 4, IN), 1);
            e.is("of the DAY behind TODAY", x.word(0, 10, 4, IN), NUMBER);
            e.is("OUT on 0", x.where(0, 8, 9), 14);
            e.is("IN on 9", x.where(0, 9, 9), 4);
        });
        e.test(7, "KNOWN from TODAY on.", () -> {
            EmptyBoxes x = boxOn(9);
            x.word(0, 2, 4, IN);
            e.is("on the DAY ahead", x.where(0, 9, 8), 20);
            e.is("on the DAY itself", x.where(0, 9, 9), 4);
            x.days(1);
            e.is("on the DAY behind", x.where(0, 9, 10), 4);
        });
        e.test(7, "2 PLACES 0 to 5.", () -> {
            EmptyBoxes x = boxOn(0);
            for (int place = 0; place <= 5; place++) {
                x.word(0, 0, place, IN);
                e.is("IN " + place, x.where(0, 0, 0), place);
                x.word(0, 0, place, OUT);
                e.is("OUT of " + place, x.where(0, 0, 0), 10 + place);
            }
            e.is("6", x.word(0, 0, 6, IN), NUMBER);
        });
    }

    private void wordRefusals() {
        int today = Scenes.BUSY_DAY;
        e.test(7, "NUMBER: there is no such BOX, DAY (0 to TODAY), PLACE, or what isn't 0, 1", () -> {
            e.range("word, box", 0, Scenes.BUSY_BOXES - 1, Scenes.BUSY, (x, v) -> x.word(v, 5, 0, IN));
            e.range("word, day", 0, today, Scenes.BUSY, (x, v) -> x.word(1, v, 0, IN));
            e.range("word, place", 0, 5, Scenes.BUSY, (x, v) -> x.word(1, 5, v, IN));
            e.range("word, what", 0, 1, Scenes.BUSY, (x, v) -> x.word(1, 5, 0, v));
        });
        e.test(7, "STATE: the BOX is GIVEN BACK or WRITTEN OFF", () -> {
            e.refused("GIVEN BACK", STATE, Scenes.BUSY, x -> x.word(2, today, 2, OUT));
            e.refused("WRITTEN OFF", STATE, Scenes.BUSY, x -> x.word(3, 0, 2, IN));
        });
        e.test(7, "FULL.", () -> e.refused("word", FULL, Scenes.FULL, x -> x.word(20, 0, 0, IN)));
        e.test(7, "REFUSALS, of several the first one named", () -> {
            Supplier<EmptyBoxes> fullAndBack = () -> {
                EmptyBoxes x = Scenes.FULL.get();
                x.giveBack(0, 0);
                return x;
            };
            e.is("GIVEN BACK", fullAndBack.get().of(0, 5), 1);
            e.refused("GIVEN BACK, full", STATE, fullAndBack, x -> x.word(0, 0, 0, IN));
            e.refused("no such PLACE, GIVEN BACK, full", NUMBER, fullAndBack, x -> x.word(0, 0, 6, IN));
            e.refused("no such DAY, full", NUMBER, Scenes.FULL, x -> x.word(20, 201, 0, IN));
        });
    }

    private void where() {
        int today = Scenes.BUSY_DAY;
        e.test(8, "Where a BOX is on a DAY d as KNOWN on DAY k: a PLACE; 10 and the PLACE that it left: on the WAY; "
                + "20 UNHEARD.", () -> {
                    EmptyBoxes x = boxOn(10);
                    x.word(0, 5, 0, IN);
                    x.word(0, 8, 0, OUT);
                    e.is("d 4", x.where(0, 4, 10), 20);
                    e.is("d 5", x.where(0, 5, 10), 0);
                    e.is("d 7", x.where(0, 7, 10), 0);
                    e.is("d 8", x.where(0, 8, 10), 10);
                    e.is("d 200", x.where(0, 200, 10), 10);
                    e.is("k 9", x.where(0, 200, 9), 20);
                    e.is("of a BOX GIVEN BACK", Scenes.BUSY.get().where(2, today, today), 2);
                });
        e.test(8, "NUMBER: there is no such BOX", () -> {
            e.range("where, box", 0, Scenes.BUSY_BOXES - 1, Scenes.BUSY, (x, v) -> x.where(v, 0, 0));
            e.is("none at all", new EmptyBoxes().where(0, 0, 0), NUMBER);
        });
        e.test(8, "d isn't 0 to 200", () ->
                e.range("where, d", 0, 200, Scenes.BUSY, (x, v) -> x.where(1, v, today)));
        e.test(8, "or k not 0 to TODAY.", () -> {
            e.range("where, k", 0, today, Scenes.BUSY, (x, v) -> x.where(1, today, v));
            e.range("where, k on the last DAY", 0, 200, Scenes.FULL, (x, v) -> x.where(1, 0, v));
        });
    }

    private void whereLatest() {
        e.test(8, "As KNOWN on DAY k, on a DAY d, a BOX is by the latest of its WORDS that are KNOWN on k and of DAY "
                + "d or before", () -> {
                    EmptyBoxes x = boxOn(5);
                    x.box(2, 0, 0, -1);
                    x.word(0, 3, 1, IN);
                    x.word(1, 4, 5, IN);
                    x.days(5);
                    x.word(0, 4, 2, IN);
                    x.word(0, 9, 3, IN);
                    e.is("not by a WORD of another BOX", x.where(0, 5, 5), 1);
                    e.is("not by one told behind k", x.where(0, 10, 9), 1);
                    e.is("by one told on k", x.where(0, 8, 10), 2);
                    e.is("not by one of a DAY behind d", x.where(0, 8, 10), 2);
                    e.is("by one of DAY d", x.where(0, 9, 10), 3);
                });
        e.test(8, "(the greatest DAY, of like ones the latest told)", () -> {
            EmptyBoxes x = boxOn(5);
            x.word(0, 4, 1, IN);
            x.word(0, 3, 2, IN);
            e.is("the greatest DAY, though told earlier", x.where(0, 5, 5), 1);
            x.word(0, 4, 3, OUT);
            e.is("of like DAYS the latest told", x.where(0, 5, 5), 13);
            x.word(0, 4, 1, IN);
            e.is("told once more", x.where(0, 5, 5), 1);
            EmptyBoxes y = boxOn(0);
            y.word(0, 0, 5, OUT);
            y.word(0, 0, 0, IN);
            e.is("all on DAY 0", y.where(0, 0, 0), 0);
        });
        e.test(8, ": IN a PLACE; on the WAY (by a WORD OUT) since that DAY; or UNHEARD (without any).", () -> {
            EmptyBoxes x = boxOn(5);
            e.is("without any", x.where(0, 5, 5), 20);
            e.is("without any", x.since(0, 5, 5), NONE);
            x.word(0, 4, 5, OUT);
            e.is("by an OUT alone", x.where(0, 5, 5), 15);
            e.is("since", x.since(0, 5, 5), 4);
            e.is("the DAY ahead of it", x.where(0, 3, 5), 20);
        });
    }

    private void since() {
        int today = Scenes.BUSY_DAY;
        e.test(9, "Since which DAY it is so (by its WORD).", () -> {
            EmptyBoxes x = boxOn(9);
            x.word(0, 0, 3, IN);
            e.is("since DAY 0", x.since(0, 0, 9), 0);
            x.word(0, 7, 3, IN);
            e.is("IN the same PLACE told again", x.since(0, 9, 9), 7);
            e.is("the DAY ahead", x.since(0, 6, 9), 0);
            x.word(0, 9, 3, OUT);
            e.is("since TODAY", x.since(0, 200, 9), 9);
        });
        e.test(9, "NUMBER likewise", () -> {
            e.range("since, box", 0, Scenes.BUSY_BOXES - 1, Scenes.BUSY, (x, v) -> x.since(v, 0, 0));
            e.range("since, d", 0, 200, Scenes.BUSY, (x, v) -> x.since(1, v, today));
            e.range("since, k", 0, today, Scenes.BUSY, (x, v) -> x.since(1, today, v));
        });
        e.test(9, "NONE: it is UNHEARD.", () -> {
            e.refused("without any WORD", NONE, Scenes.BUSY, x -> x.since(6, 200, today));
            e.refused("d ahead of its first WORD", NONE, Scenes.BUSY, x -> x.since(1, 3, today));
            e.refused("k ahead of its first WORD", NONE, Scenes.BUSY, x -> x.since(1, 200, 4));
        });
        e.test(9, "REFUSALS, of several the first one named", () -> {
            e.refused("UNHEARD, d 201", NUMBER, Scenes.BUSY, x -> x.since(6, 201, 0));
            e.refused("UNHEARD, k behind TODAY", NUMBER, Scenes.BUSY, x -> x.since(6, 0, today + 1));
        });
    }

    /** The QUARRELS of WORDS that are told on one DAY, each as a PLACE and whether OUT. */
    private static int quarrelsOf(int... words) {
        EmptyBoxes x = boxOn(0);
        for (int i = 0; i < words.length; i += 2) {
            x.word(0, 0, words[i], words[i + 1]);
        }
        return x.quarrels(0, 0);
    }

    private void quarrels() {
        e.test(10, "QUARREL: two WORDS of a BOX, KNOWN on k, that follow one another (by DAYS, then by numbers), say "
                + "both IN at unlike PLACES, or both OUT, or OUT of a PLACE behind IN at another one.", () -> {
                    e.is("no WORD", quarrelsOf(), 0);
                    e.is("one IN", quarrelsOf(3, IN), 0);
                    e.is("one OUT", quarrelsOf(3, OUT), 0);
                    e.is("both IN at unlike PLACES", quarrelsOf(0, IN, 5, IN), 1);
                    e.is("both IN at the same", quarrelsOf(3, IN, 3, IN), 0);
                    e.is("both OUT of unlike PLACES", quarrelsOf(0, OUT, 5, OUT), 1);
                    e.is("both OUT of the same", quarrelsOf(3, OUT, 3, OUT), 1);
                    e.is("OUT behind IN at another one", quarrelsOf(0, IN, 5, OUT), 1);
                    e.is("OUT behind IN at the same", quarrelsOf(3, IN, 3, OUT), 0);
                    e.is("IN behind OUT of another one", quarrelsOf(0, OUT, 5, IN), 0);
                    e.is("IN behind OUT of the same", quarrelsOf(3, OUT, 3, IN), 0);
                    e.is("only those that follow one another", quarrelsOf(1, IN, 1, OUT, 2, IN, 2, OUT), 0);
                    e.is("each two of a row", quarrelsOf(1, OUT, 1, OUT, 1, OUT, 1, OUT), 3);
                });
        e.test(10, "How many QUARRELS of a BOX there are as KNOWN on DAY k.", () -> {
            EmptyBoxes x = boxOn(3);
            x.box(2, 0, 0, -1);
            x.word(0, 1, 1, IN);
            x.word(1, 2, 4, IN);
            x.days(1);
            x.word(0, 2, 2, IN);
            e.is("as KNOWN on 3", x.quarrels(0, 3), 0);
            e.is("as KNOWN on 4", x.quarrels(0, 4), 1);
            e.is("of the other BOX", x.quarrels(1, 4), 0);
            e.is("of a BOX without WORDS", Scenes.BUSY.get().quarrels(6, Scenes.BUSY_DAY), 0);
            EmptyBoxes y = boxOn(0);
            for (int word = 0; word < 60; word++) {
                y.word(0, 0, 5, OUT);
            }
            e.is("all 60 WORDS", y.quarrels(0, 0), 59);
        });
        e.test(10, "NUMBER: there is no such BOX", () -> {
            e.range("quarrels, box", 0, Scenes.BUSY_BOXES - 1, Scenes.BUSY, (x, v) -> x.quarrels(v, 0));
            e.is("none at all", new EmptyBoxes().quarrels(0, 0), NUMBER);
        });
        e.test(10, "or k isn't 0 to TODAY.", () ->
                e.range("quarrels, k", 0, Scenes.BUSY_DAY, Scenes.BUSY, (x, v) -> x.quarrels(1, v)));
    }

    private void quarrelsInOrder() {
        e.test(10, "that follow one another (by DAYS, then by numbers)", () -> {
            EmptyBoxes x = boxOn(9);
            x.word(0, 5, 1, IN);
            x.word(0, 3, 2, IN);
            x.word(0, 4, 2, OUT);
            e.is("by DAYS: IN 2, OUT of 2, IN 1", x.quarrels(0, 9), 0);
            x.word(0, 5, 1, OUT);
            e.is("then by numbers: IN 1, OUT of 1", x.quarrels(0, 9), 0);
            x.word(0, 3, 1, IN);
            e.is("IN 2 and IN 1 on one DAY, then OUT of 2", x.quarrels(0, 9), 2);
            x.days(1);
            x.word(0, 3, 2, IN);
            e.is("IN 2, IN 1, IN 2, OUT of 2", x.quarrels(0, 10), 2);
            e.is("as KNOWN ahead of the last", x.quarrels(0, 9), 2);
            x.word(0, 2, 2, OUT);
            e.is("OUT of 2 ahead of all", x.quarrels(0, 10), 2);
            x.word(0, 2, 2, OUT);
            e.is("and once more", x.quarrels(0, 10), 3);
            EmptyBoxes y = boxOn(9);
            y.word(0, 5, 1, IN);
            y.word(0, 4, 2, IN);
            e.is("the first WORD behind the second", y.quarrels(0, 9), 1);
        });
    }

    private void count() {
        e.test(11, "How many BOXES are IN a PLACE (0 to 5), on the WAY (10), UNHEARD (20), LATE (30) TODAY, as KNOWN "
                + "TODAY", () -> {
                    EmptyBoxes x = Scenes.on(30);
                    for (int box = 0; box < 9; box++) {
                        x.box(box, 0, 0, -1);
                    }
                    x.word(0, 30, 0, IN);
                    x.word(1, 0, 5, IN);
                    x.word(2, 30, 5, IN);
                    x.word(3, 30, 0, OUT);
                    x.word(4, 30, 5, OUT);
                    x.word(5, 9, 3, OUT);
                    int[] due = {1, 0, 0, 0, 0, 2};
                    for (int place = 0; place <= 5; place++) {
                        e.is("count(" + place + ")", x.count(place), due[place]);
                    }
                    e.is("count(10)", x.count(10), 3);
                    e.is("count(20)", x.count(20), 3);
                    e.is("count(30)", x.count(30), 1);
                });
        e.test(11, "but for those GIVEN BACK or WRITTEN OFF.", () -> {
            EmptyBoxes x = new EmptyBoxes();
            x.read(0);
            for (int box = 0; box < 3; box++) {
                x.box(box, 0, 0, 0);
            }
            x.word(0, 0, 4, IN);
            x.word(1, 0, 4, OUT);
            x.days(21);
            int[] whats = {4, 10, 20, 30};
            for (int what : whats) {
                e.is("count(" + what + ") ahead", x.count(what), 1);
            }
            e.is("giveBack(0)", x.giveBack(0, 0), 0);
            e.is("writeOff(1)", x.writeOff(1), 0);
            e.is("writeOff(2)", x.writeOff(2), 0);
            for (int what : whats) {
                e.is("count(" + what + ") behind", x.count(what), 0);
            }
        });
        e.test(11, "NUMBER: another what.", () -> {
            e.range("count", 0, 5, Scenes.BUSY, EmptyBoxes::count);
            for (int what = -40; what <= 60; what++) {
                boolean told = what >= 0 && what <= 5 || what == 10 || what == 20 || what == 30;
                e.is("count(" + what + ")", (new EmptyBoxes().count(what) == NUMBER) != told);
            }
            for (int what : new int[] {9, 11, 15, 19, 21, 29, 31, 40, 256 + 10, 65536 + 30}) {
                e.refused("count(" + what + ")", NUMBER, Scenes.BUSY, x -> x.count(what));
            }
        });
    }

    private void late() {
        e.test(11, "LATE is a BOX on a DAY (as KNOWN on it) that is on the WAY for more than 20 DAYS.", () -> {
            EmptyBoxes x = boxOn(0);
            x.word(0, 0, 0, OUT);
            x.days(20);
            e.is("for 20", x.count(30), 0);
            x.days(1);
            e.is("for 21", x.count(30), 1);
            e.is("it still is on the WAY", x.count(10), 1);
            x.word(0, 1, 0, OUT);
            e.is("since its latest WORD, for 20", x.count(30), 0);
            x.days(1);
            e.is("a DAY on", x.count(30), 1);
            x.word(0, 2, 1, IN);
            e.is("IN for 20 and more", x.count(30), 0);
            x.days(30);
            e.is("IN is never LATE", x.count(30), 0);
            EmptyBoxes y = boxOn(30);
            e.is("UNHEARD is not LATE", y.count(30), 0);
            y.word(0, 9, 5, OUT);
            e.is("told only TODAY", y.count(30), 1);
        });
    }
}
