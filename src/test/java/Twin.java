import java.util.LinkedHashMap;
import java.util.Map;

/** Two objects made alike: one has a call more, and all that can be seen of both has to be alike. */
final class Twin {
    interface Made {
        OneDidAll make();
    }

    interface Ask {
        long of(OneDidAll x);
    }

    private final OneDidAll x;
    private final Map<String, Long> all = new LinkedHashMap<>();

    private Twin(OneDidAll x) {
        this.x = x;
    }

    /** The answer that is due, and nothing changed by it. */
    static void changesNothing(String call, Made made, Ask ask, long due) {
        OneDidAll one = made.make();
        OneDidAll other = made.make();
        Check.due(call, ask.of(one), due);
        same(call, one, other);
    }

    /** The looks change much; both objects are used up by them. */
    static void same(String call, OneDidAll one, OneDidAll other) {
        Map<String, Long> got = all(one);
        all(other).forEach((look, want) -> Check.due("behind " + call + ": " + look, got.get(look), want));
    }

    /** All that can be seen of an object, in less than 300 calls. */
    static Map<String, Long> all(OneDidAll x) {
        Twin twin = new Twin(x);
        twin.lookAtNumbers("");
        twin.lookAtPupils("", 10);
        twin.lookAhead();
        twin.lookAtRows();
        twin.lookAtTape();
        twin.see("undo()", x.undo());
        twin.lookAtNumbers("then ");
        twin.lookAtPupils("then ", 6);
        twin.see("then done(0)", x.done(0));
        twin.see("then looked()", x.looked());
        twin.see("then school()", x.school());
        return twin.all;
    }

    private void see(String look, long answer) {
        all.put(look, answer);
    }

    private void lookAtNumbers(String when) {
        for (int what = 0; what < 7; what++) {
            see(when + "count(" + what + ")", x.count(what));
            see(when + "told(" + what + ")", x.told(what));
        }
        for (int i = 0; i < 8; i++) see(when + "trace(" + i + ")", x.trace(i));
    }

    private void lookAtPupils(String when, int whats) {
        for (int p = 0; p < 6; p++) {
            for (int what = 0; what < whats; what++) see(when + "of(" + p + ", " + what + ")", x.of(p, what));
        }
    }

    private void lookAhead() {
        for (int p = 0; p < 6; p++) {
            see("mark(" + p + ", 2)", x.mark(p, 2));
            see("skilled(" + p + ", 0)", x.skilled(p, 0));
            see("firm(" + p + ", 1)", x.firm(p, 1));
        }
        for (int n = 1; n <= 4; n++) see("on(" + n + ", 1)", x.on(n, 1));
        see("part(0, 0)", x.part(0, 0));
        see("done(0)", x.done(0));
        see("done(1)", x.done(1));
        see("looked()", x.looked());
    }

    private void lookAtRows() {
        for (int p = 0; p < 6; p++) {
            for (int k = 0; k < 4; k++) see("row(" + p + ", " + k + ", 0)", x.row(p, k, 0));
        }
    }

    private void lookAtTape() {
        see("school()", x.school());
        see("told(2) by it", x.told(2));
        see("told(3) by it", x.told(3));
        for (int p = 0; p < 6; p++) see("of(" + p + ", 6) by it", x.of(p, 6));
    }
}
