/** Promises 30 to 35: acts, the image. */
public final class ActsTest {
    private static final int NONE = -1, STATE = -3;

    public static void main(String[] args) {
        acts();
        noAct();
        as();
        imageAndUndo();
        undoKeepsTheTrace();
        undoneOnesAreNew();
        count();
        Check.end();
    }

    /** The pupil looked at is number 2 and has v 9. */
    private static void acts() {
        for (int x : new int[] {0, 5, -1, 1000000007, Integer.MAX_VALUE, Integer.MIN_VALUE}) {
            int plain = x + 2;
            int keen = x * 3 + 2;
            int shy = x + 2 ^ 2;
            dueActs(0, x, plain, "1", plain - 9, "2 1", (plain - 9) * 2, "3 2 1");
            dueActs(1, x, keen, "11 1", keen - 9, "2 11 1", (keen - 9) * 2, "3 2 11 1");
            dueActs(2, x, plain, "1", 9 - plain, "21 2 1", (9 - plain) * 2, "3 21 2 1");
            dueActs(3, x, plain, "1", plain - 9, "2 1", (plain - 9) * 2 ^ 7, "31 3 2 1");
            int leader = ((x - 1) * 3 + 2 - 9) * 2 + 8;
            dueActs(4, x, keen, "11 1", keen - 9, "2 11 1", leader, "41 3 2 11 1 11 1");
            dueActs(5, x, shy, "51 1", 9 - shy, "21 2 51 1", (9 - shy) * 2, "3 21 2 51 1");
            dueActs(6, x, plain, "1", plain, "61 2 1", plain * 2 ^ 7, "31 3 61 2 1");
        }
    }

    private static void dueActs(int kind, int x, int thinks, String first, int writes, String second,
            int tells, String third) {
        OneDidAll one = new OneDidAll();
        one.pupil(0, 1, 1, 1);
        one.pupil(0, 1, 1, 1);
        one.pupil(kind, 9, 1, 1);
        dueAct(one, kind, 0, x, thinks, first);
        dueAct(one, kind, 1, x, writes, second);
        dueAct(one, kind, 2, x, tells, third);
    }

    private static void dueAct(OneDidAll one, int kind, int act, int x, int answer, String trace) {
        String call = "act(2, " + act + ", " + x + ") of kind " + kind;
        Check.due(call, one.act(2, act, x), answer);
        String[] bodies = trace.split(" ");
        Check.due(call + ", count(6)", one.count(6), bodies.length);
        for (int i = 0; i < bodies.length; i++) {
            Check.due(call + ", trace(" + i + ")", one.trace(i), Integer.parseInt(bodies[i]));
        }
        Check.due(call + ", trace behind all", one.trace(bodies.length), NONE);
        Check.due(call + ", trace(-1)", one.trace(-1), NONE);
    }

    private static void noAct() {
        OneDidAll x = new OneDidAll();
        x.pupil(0, 0, 1, 0);
        int[][] wrong = {{1, 0}, {-1, 0}, {0, 3}, {0, -1}, {6, 9}};
        for (int[] one : wrong) {
            x.act(0, 2, 1);
            Check.due("trace(0) of an act", x.trace(0), 3);
            Check.due("act(" + one[0] + ", " + one[1] + ", 7)", x.act(one[0], one[1], 7), 0);
            Check.due("count(6)", x.count(6), 0);
            Check.due("trace(0)", x.trace(0), NONE);
        }
        x.act(0, 2, 1);
        for (int i : new int[] {3, 19, 20, Integer.MAX_VALUE, Integer.MIN_VALUE}) {
            Check.due("trace(" + i + ")", x.trace(i), NONE);
        }
    }

    private static void as() {
        String[] under = {"0", "0 1", "0 2", "0 3", "0 1 4", "0 2 5", "0 3 6"};
        for (int kind = 0; kind <= 6; kind++) {
            OneDidAll x = new OneDidAll();
            x.pupil(kind, 8, 1, 0);
            for (int k = 0; k <= 6; k++) {
                boolean is = (" " + under[kind] + " ").contains(" " + k + " ");
                Check.due("as(0, " + k + ") of kind " + kind, x.as(0, k), is ? 8 : -6);
            }
            Check.due("as(0, 7)", x.as(0, 7), NONE);
            Check.due("as(0, -1)", x.as(0, -1), NONE);
            Check.due("as(1, 0)", x.as(1, 0), NONE);
            Check.due("as(-1, 0)", x.as(-1, 0), NONE);
        }
    }

    private static OneDidAll full() {
        OneDidAll x = Check.taught("goal 44;fair 4");
        x.pupil(6, 4, 2, 50);
        x.pupil(2, 1, 3, 60);
        x.row(0, 2, 6);
        x.out(1, true);
        x.pass(2);
        x.see(20, 2);
        x.plan(0, 0);
        x.plan(2, 1);
        x.book(0, 10);
        x.book(1, 0);
        x.book(1, 1);
        Check.feedAll(x, "goal 5");
        return x;
    }

    private static void dueFull(OneDidAll x) {
        int[] counts = {2, 1, 1, 2, 3, 6};
        for (int what = 0; what < 6; what++) Check.due("count(" + what + ")", x.count(what), counts[what]);
        int[] told = {2, 20, 44, 4, 10, 100 + 1, 45};
        for (int what = 0; what < 7; what++) Check.due("told(" + what + ")", x.told(what), told[what]);
        int[] of = {6, 4, 2, 50, 10, 0, 5, 11, 100, 100};
        for (int what = 0; what < 10; what++) Check.due("of(0, " + what + ")", x.of(0, what), of[what]);
        Check.due("of(1, 5)", x.of(1, 5), 1);
        Check.due("looked()", x.looked(), 2);
        Check.due("done(0)", x.done(0), 22);
        Check.due("skilled(0, 0)", x.skilled(0, 0), 0);
    }

    private static void change(OneDidAll x) {
        x.pupil(4, 9, 9, 99);
        x.row(0, 2, 0);
        x.out(1, false);
        x.out(0, true);
        x.will(0, 3);
        x.see(-1, 0);
        x.see(1, 0);
        x.see(2, 0);
        x.plan(3, 0);
        x.book(-1, 0);
        x.book(0, 0);
        Check.feedAll(x, ";fair 9");
        x.school();
        Check.feedAll(x, "zz");
        x.pass(9);
    }

    private static void imageAndUndo() {
        OneDidAll x = full();
        Check.due("undo() without an image", x.undo(), STATE);
        dueFull(x);
        Check.due("image()", x.image(), 2);
        dueFull(x);
        change(x);
        Check.due("told(3)", x.told(3), 9);
        Check.due("count(0)", x.count(0), 3);
        Check.due("undo()", x.undo(), 2);
        dueFull(x);
        Check.due("school() of the tape that was", x.school(), 1);
        Check.due("told(2)", x.told(2), 5);
        change(x);
        Check.due("undo() once more", x.undo(), 2);
        dueFull(x);
        change(x);
        Check.due("image() of the other", x.image(), 3);
        x.will(2, 1);
        Check.due("undo()", x.undo(), 3);
        Check.due("of(2, 0)", x.of(2, 0), 4);
        Check.due("of(2, 3) as in the image", x.of(2, 3) == 1 ? 1 : 0, 0);
        OneDidAll y = new OneDidAll();
        Check.due("image() of nothing", y.image(), 0);
        change(y);
        Check.due("undo() to nothing", y.undo(), 0);
        for (int what = 0; what < 6; what++) Check.due("count(" + what + ")", y.count(what), 0);
        Check.due("told(0)", y.told(0), 0);
        Check.due("told(2)", y.told(2), 60);
    }

    private static void undoKeepsTheTrace() {
        OneDidAll x = new OneDidAll();
        x.pupil(0, 0, 1, 0);
        x.image();
        x.act(0, 2, 1);
        x.undo();
        Check.due("count(6) behind undo()", x.count(6), 3);
        Check.due("trace(0) behind undo()", x.trace(0), 3);
    }

    private static void undoneOnesAreNew() {
        OneDidAll x = new OneDidAll();
        x.image();
        x.pupil(6, 9, 9, 99);
        x.row(0, 1, 9);
        x.pass(1);
        x.out(0, true);
        x.undo();
        x.pupil(6, 0, 1, 9);
        Check.due("of(0, 4) of the new one", x.of(0, 4), 0);
        Check.due("of(0, 5) of the new one", x.of(0, 5), 0);
        Check.due("row(0, 1, 0) of the new one", x.row(0, 1, 0), 0);
    }

    private static void count() {
        OneDidAll x = full();
        x.act(0, 0, 0);
        int[] counts = {2, 1, 1, 2, 3, 6, 1};
        for (int what = 0; what < 7; what++) Check.due("count(" + what + ")", x.count(what), counts[what]);
        Check.due("count(-1)", x.count(-1), NONE);
        Check.due("count(7)", x.count(7), NONE);
    }
}
