/** Promises 26 to 29: plans, books. */
public final class PlansTest {
    private static final int NONE = -1, BAD = -2, FULL = -4;

    public static void main(String[] args) {
        plan();
        done();
        book();
        looked();
        Check.end();
    }

    private static void plan() {
        OneDidAll x = new OneDidAll();
        Check.due("plan(-2, 0)", x.plan(-2, 0), NONE);
        Check.due("plan(4, 0)", x.plan(4, 0), NONE);
        Check.due("plan(1, 0) without pupils", x.plan(1, 0), NONE);
        Check.due("plan(0, -9)", x.plan(0, -9), 1);
        x.pupil(0, 0, 1, 0);
        Check.due("plan(1, -1)", x.plan(1, -1), NONE);
        Check.due("plan(2, 1)", x.plan(2, 1), NONE);
        Check.due("plan(3, 1)", x.plan(3, 1), NONE);
        for (int n = 2; n <= 8; n++) Check.due("plan to " + n, x.plan(n % 4, 0), n);
        Check.due("plan(0, 0) when full", x.plan(0, 0), FULL);
        Check.due("plan(1, 1) when full", x.plan(1, 1), NONE);
        Check.due("plan(4, 0) when full", x.plan(4, 0), NONE);
        Check.due("count(3)", x.count(3), 8);
        Check.due("plan(-1, 9)", x.plan(-1, 9), 0);
        Check.due("count(3)", x.count(3), 0);
        Check.due("plan(3, 0)", x.plan(3, 0), 1);
    }

    private static void done() {
        OneDidAll x = new OneDidAll();
        dueDone(x, 0, 0);
        x.pupil(0, 0, 2, 3);
        x.pupil(0, 0, 3, 99);
        x.pass(1);
        // WILL of the first is 3 and it does 3; the AVERAGE is 4, so that its WILL goes up.
        dueDone(x, 0, 0);
        x.plan(0, 0);
        dueDone(x, 4 * 2 + 15, 9);
        x.plan(1, 1);
        x.plan(0, 0);
        dueDone(x, 23 + 8, 9 + 4);
        x.plan(3, 0);
        x.plan(0, 1);
        dueDone(x, 31 + 10, 13 + 5);
        x.plan(2, 1);
        x.plan(0, 77);
        dueDone(x, 41 + 25, 18 + 10);
        x.plan(1, 0);
        dueDone(x, 66, 28);
        Check.due("of(0, 5)", x.of(0, 5), 0);
        Check.due("of(0, 3)", x.of(0, 3), 4);
        Check.due("told(0)", x.told(0), 1);
        Check.due("done(-1)", x.done(-1), NONE);
        Check.due("done(2)", x.done(2), NONE);
        OneDidAll y = Check.taught("spur 94 p=0");
        y.pupil(0, 0, 9, 99);
        for (int i = 0; i < 5; i++) y.pass(30);
        for (int i = 0; i < 8; i++) y.plan(0, 0);
        Check.due("told(4)", y.told(4), 9999);
        dueDone(y, 8 * 99 * 9, 8 * 99);
    }

    private static void dueDone(OneDidAll x, int work, int hours) {
        Check.due("done(0)", x.done(0), work);
        Check.due("done(1)", x.done(1), hours);
    }

    private static void book() {
        OneDidAll x = new OneDidAll();
        Check.due("book(0, 0) without pupils", x.book(0, 0), NONE);
        x.pupil(0, 0, 1, 0);
        Check.due("book(1, -1)", x.book(1, -1), NONE);
        Check.due("book(-2, 0)", x.book(-2, 0), NONE);
        Check.due("book(0, -1)", x.book(0, -1), BAD);
        Check.due("book(0, 10000)", x.book(0, 10000), BAD);
        Check.due("book(0, 0)", x.book(0, 0), 1);
        for (int n = 2; n <= 8; n++) Check.due("book to " + n, x.book(0, 9999), n);
        Check.due("book(0, 0) when full", x.book(0, 0), FULL);
        Check.due("book(0, 10000) when full", x.book(0, 10000), BAD);
        Check.due("book(1, 10000) when full", x.book(1, 10000), NONE);
        Check.due("count(4)", x.count(4), 8);
        Check.due("book(-1, -1)", x.book(-1, -1), 0);
        Check.due("count(4)", x.count(4), 0);
        Check.due("book(0, 5)", x.book(0, 5), 1);
    }

    private static void looked() {
        OneDidAll x = new OneDidAll();
        Check.due("looked() without rows", x.looked(), -5);
        x.pupil(0, 0, 1, 99);
        x.pupil(0, 0, 1, 3);
        x.book(0, 0);
        x.book(1, 0);
        Check.due("looked() ahead", x.looked(), -5);
        x.pass(1);
        Check.due("looked() a WEEK on", x.looked(), 0);
        x.book(-1, 0);
        x.book(0, 5);
        x.book(1, 3);
        Check.due("looked(): all is so", x.looked(), -5);
        x.book(0, 6);
        x.book(1, 4);
        Check.due("looked(): the first", x.looked(), 2);
        x.pass(1);
        Check.due("looked() later", x.looked(), 0);
    }
}
