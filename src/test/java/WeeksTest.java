/** Promises 12 to 15: weeks to come, rules. */
public final class WeeksTest {
    private static final int NONE = -1, BAD = -2;

    public static void main(String[] args) {
        on();
        onChangesNothing();
        ready();
        spread();
        nearest();
        Check.end();
    }

    private static void on() {
        OneDidAll x = new OneDidAll();
        x.pupil(0, 0, 2, 99);
        x.pupil(1, 8, 3, 99);
        x.pupil(2, 0, 1, 1);
        x.pass(1);
        // Then they do 5, 9, 2 (AVERAGE 5), and WILL is 99, 97, 2; behind the next 99, 95, 3.
        Check.due("on(0, 0)", x.on(0, 0), 0);
        Check.due("on(0, 1)", x.on(0, 1), 0);
        Check.due("on(0, 10)", x.on(0, 10), 0);
        Check.due("on(0, 21)", x.on(0, 21), 97);
        Check.due("on(1, 0)", x.on(1, 0), 10 + 27 + 2);
        Check.due("on(1, 1)", x.on(1, 1), 16);
        int[] hours = {5, 9, 2};
        int[] wills = {99, 95, 3};
        for (int p = 0; p < 3; p++) {
            Check.due("on(1, " + (10 + p) + ")", x.on(1, 10 + p), hours[p]);
            Check.due("on(1, " + (20 + p) + ")", x.on(1, 20 + p), wills[p]);
        }
        Check.due("on(60, 10)", x.on(60, 10), 300);
        Check.due("on(61, 0)", x.on(61, 0), BAD);
        Check.due("on(-1, 12)", x.on(-1, 12), BAD);
        int[] nothing = {-1, 2, 9, 13, 15, 16, 19, 23, 26, 30, Integer.MIN_VALUE, Integer.MAX_VALUE};
        for (int what : nothing) {
            Check.due("on(1, " + what + ")", x.on(1, what), NONE);
            Check.due("on(61, " + what + ")", x.on(61, what), NONE);
        }
        for (int i = 3; i < 6; i++) x.pupil(0, 0, 1, 0);
        Check.due("on(0, 15)", x.on(0, 15), 0);
        Check.due("on(0, 16)", x.on(0, 16), NONE);
        Check.due("on(0, 25)", x.on(0, 25), 0);
        Check.due("on(0, 26)", x.on(0, 26), NONE);
    }

    private static void onChangesNothing() {
        OneDidAll x = Check.taught("spur 3 h>1;spur 2 w=5");
        x.pupil(6, 0, 2, 30);
        x.pupil(4, 8, 3, 40);
        x.row(0, 2, 4);
        x.see(12, 1);
        x.plan(1, 0);
        x.plan(0, 0);
        x.pass(3);
        int[] before = all(x);
        x.on(60, 0);
        x.ready();
        x.spread(1);
        x.nearest();
        x.throwOut();
        x.alone(0);
        x.team(1, 0);
        x.split(0);
        x.part(0, 0);
        x.skilled(0, 0);
        x.firm(0, 0);
        x.odds(60, 1, 0);
        x.mean(60, 0);
        x.done(0);
        x.looked();
        int[] after = all(x);
        for (int i = 0; i < before.length; i++) Check.due("number " + i + " of all", after[i], before[i]);
    }

    private static int[] all(OneDidAll x) {
        int[] all = new int[34];
        int at = 0;
        for (int what = 0; what < 7; what++) all[at++] = x.told(what);
        for (int p = 0; p < 2; p++) {
            for (int what = 0; what < 10; what++) all[at++] = x.of(p, what);
        }
        for (int what = 0; what < 7; what++) all[at++] = x.count(what);
        return all;
    }

    private static void ready() {
        OneDidAll x = Check.taught("goal 25");
        Check.due("ready() without pupils", x.ready(), -5);
        x.pupil(0, 0, 1, 99);
        Check.due("ready(): in 5 WEEKS just so", x.ready(), 5);
        x.pass(2);
        Check.due("ready() two WEEKS on", x.ready(), 3);
        x.pass(3);
        Check.due("ready() when it is", x.ready(), 0);
        OneDidAll y = Check.taught("goal 60;shirk 4 p=0;fair 0");
        y.pupil(0, 0, 1, 99);
        Check.due("ready() in 60 WEEKS", y.ready(), 60);
        Check.teach(y, "goal 61;shirk 4 p=0;fair 0");
        Check.due("ready() not in 60 WEEKS", y.ready(), -5);
        Check.teach(y, "goal 0;shirk 5 p=0");
        Check.due("ready() by goal 0 without WORK", y.ready(), -5);
    }

    private static void spread() {
        OneDidAll x = Check.taught("goal 90");
        Check.due("spread(0) without pupils", x.spread(0), 0);
        x.pupil(0, 0, 5, 99);
        x.pupil(3, 0, 3, 2);
        x.pupil(1, 4, 2, 9);
        x.pass(1);
        // MARKS: see PupilsTest.mark.
        int[] due = {0, 75 - 21, 63 - 38, 0};
        for (int rule = 0; rule < 4; rule++) Check.due("spread(" + rule + ")", x.spread(rule), due[rule]);
        x.out(2, true);
        int[] without = {0, 71 - 28, 55 - 44, 0};
        for (int rule = 0; rule < 4; rule++) Check.due("spread(" + rule + ") of two", x.spread(rule), without[rule]);
        x.out(0, true);
        for (int rule = 0; rule < 4; rule++) Check.due("spread(" + rule + ") of one", x.spread(rule), 0);
        x.out(1, true);
        for (int rule = 0; rule < 4; rule++) Check.due("spread(" + rule + "): all are OUT", x.spread(rule), 0);
        OneDidAll y = Check.taught("goal 5");
        y.pupil(0, 0, 1, 99);
        for (int rule = 0; rule < 4; rule++) Check.due("spread(" + rule + ") without WORK", y.spread(rule), 0);
        y.pass(1);
        for (int rule = 0; rule < 4; rule++) Check.due("spread(" + rule + ") by BASE 100", y.spread(rule), 0);
        Check.due("spread(-1)", x.spread(-1), NONE);
        Check.due("spread(4)", x.spread(4), NONE);
    }

    private static void nearest() {
        OneDidAll x = Check.taught("goal 90");
        Check.due("nearest() without pupils: the first", x.nearest(), 0);
        x.pupil(0, 0, 5, 99);
        x.pupil(3, 0, 3, 2);
        x.pupil(1, 4, 2, 9);
        x.pass(1);
        // By HOURS 53, 21, 75; RULE 0 is 3 + 29 + 25 away, RULE 2 5 + 17 + 12, RULE 3 42 + 10 + 64.
        Check.due("nearest()", x.nearest(), 2);
        x.out(1, true);
        x.out(2, true);
        // One alone has 50 by RULES 0, 1, 2.
        Check.due("nearest(): of several the first", x.nearest(), 0);
        OneDidAll w = Check.taught("goal 22;spur 1 p=0");
        w.pupil(0, 0, 1, 99);
        w.pupil(3, 0, 1, 99);
        w.pass(1);
        // By HOURS 54 and 45; RULE 0 is 4 + 5 away, RULE 2 17 + 17, RULE 3 49 + 40.
        Check.due("mark(0, 1)", w.mark(0, 1), 54);
        Check.due("mark(0, 2)", w.mark(0, 2), 37);
        Check.due("nearest()", w.nearest(), 0);
        OneDidAll y = Check.taught("goal 99;spur 94 p=0");
        y.pupil(0, 0, 1, 99);
        y.pupil(2, 9, 1, 0);
        y.pupil(2, 9, 1, 0);
        y.pupil(2, 9, 1, 0);
        y.pass(1);
        // By HOURS 100, 0, 0, 0; RULE 0 is 300 away, RULE 2 3 * 28, RULE 3 89 + 3 * 11.
        Check.due("mark(0, 3)", y.mark(0, 3), 11);
        Check.due("mark(1, 2)", y.mark(1, 2), 28);
        Check.due("nearest()", y.nearest(), 2);
        OneDidAll z = Check.taught("goal 99;spur 94 p=0");
        z.pupil(0, 0, 1, 99);
        for (int i = 0; i < 5; i++) z.pupil(2, 9, 1, 0);
        z.pass(1);
        z.out(0, true);
        // Of those left nobody has HOURS: 100 each by RULE 1.
        Check.due("mark(1, 1)", z.mark(1, 1), 100);
        Check.due("nearest()", z.nearest(), 0);
        OneDidAll u = Check.taught("goal 50;spur 45 p=0;fair 0");
        u.pupil(3, 0, 1, 50);
        u.pupil(2, 9, 9, 0);
        u.pupil(2, 9, 9, 0);
        u.pupil(2, 9, 9, 0);
        u.pupil(2, 9, 9, 0);
        u.pupil(2, 9, 9, 0);
        u.pass(1);
        // By HOURS 100 and 0s; RULE 0 is 500 away, RULE 2 5 * 37, RULE 3 89 + 5 * 11.
        Check.due("mark(1, 2)", u.mark(1, 2), 37);
        Check.due("nearest()", u.nearest(), 3);
    }
}
