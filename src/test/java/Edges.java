import java.util.IdentityHashMap;
import java.util.Map;
import java.util.TreeSet;
import java.util.function.Supplier;
import java.util.function.ToIntFunction;

/**
 * Tests that each name a promise and a sentence of the document. A call that must change nothing is
 * made on one of two objects that are alike; behind it both must answer all later calls alike.
 */
final class Edges {
    /** A call with one number left open. */
    interface Open {
        int on(EmptyBoxes x, int v);
    }

    private final Due due = new Due("EdgesTest");
    private final Document document;
    private final Map<Supplier<EmptyBoxes>, String> aftermaths = new IdentityHashMap<>();
    private String at = "";
    private int tests;
    private int asked;

    Edges(Document document) {
        this.document = document;
    }

    void test(int promise, String sentence, Runnable body) {
        at = "promise " + promise + ", \"" + sentence + "\": ";
        tests++;
        if (document != null) {
            is("the document says so", document.name(promise, sentence));
        }
        int before = asked;
        try {
            body.run();
        } catch (RuntimeException thrown) {
            is("nothing is thrown, but " + thrown, false);
        }
        is("something is asked", asked > before);
    }

    void is(String call, long got, long want) {
        asked++;
        due.is(at + call, got, want);
    }

    void is(String what, boolean holds) {
        is(what, holds ? 1 : 0, 1);
    }

    /** A refused call, behind which the object is as it was. */
    void refused(String call, int want, Supplier<EmptyBoxes> scene, ToIntFunction<EmptyBoxes> ask) {
        leaves(call, want, scene, ask, scene);
    }

    /** A call behind which the object is like one that was made otherwise. */
    void leaves(String call, int want, Supplier<EmptyBoxes> scene, ToIntFunction<EmptyBoxes> ask,
            Supplier<EmptyBoxes> like) {
        EmptyBoxes x = scene.get();
        is(call, ask.applyAsInt(x), want);
        String due = aftermaths.computeIfAbsent(like, s -> Scenes.aftermath(s.get()));
        String got = Scenes.aftermath(x);
        int unlike = 0;
        while (unlike < got.length() && unlike < due.length() && got.charAt(unlike) == due.charAt(unlike)) {
            unlike++;
        }
        is("behind " + call + " all later answers are as due, but from '"
                + due.substring(Math.max(0, unlike - 60), unlike) + "' on", got.equals(due));
    }

    /** NUMBER, and nothing changed, for all v outside; the ends themselves are taken. */
    void range(String call, int low, int high, Supplier<EmptyBoxes> scene, Open open) {
        for (int v : outside(low, high)) {
            refused(call + " of " + v, EmptyBoxes.NUMBER, scene, x -> open.on(x, v));
        }
        for (int v : new int[] {low, high}) {
            is(call + " of " + v + " is a number as told", open.on(scene.get(), v) != EmptyBoxes.NUMBER);
        }
    }

    /** Just outside, far outside, and what would be inside if only the lowest bits were looked at. */
    static TreeSet<Integer> outside(int low, int high) {
        TreeSet<Integer> values = new TreeSet<>();
        for (int near : new int[] {low, high}) {
            for (int away : new int[] {-1, 1, -100, 100, 256, -256, 1 << 16, 1 << 24, 1 << 30, 1 << 31}) {
                values.add(near + away);
            }
        }
        values.add(Integer.MAX_VALUE);
        values.removeIf(v -> v >= low && v <= high);
        return values;
    }

    void end() {
        if (document == null) {
            System.out.println("EdgesTest: there is no document to compare the sentences with");
        } else {
            at = "";
            for (String rest : document.unnamed()) {
                is("each part of the document is named by a test, but not '" + rest + "'", false);
            }
        }
        System.out.println("EdgesTest: " + tests + " sentences");
        due.end();
    }
}
