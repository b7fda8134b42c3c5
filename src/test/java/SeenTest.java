/** Promises 21 to 25: seen, odds. */
public final class SeenTest {
    private static final int NONE = -1, BAD = -2, FULL = -4;
    private static final long NO = Long.MIN_VALUE;

    public static void main(String[] args) {
        see();
        skilled();
        firm();
        odds();
        mean();
        Check.end();
    }

    private static void see() {
        OneDidAll x = new OneDidAll();
        Check.due("see(-2, 0)", x.see(-2, 0), BAD);
        Check.due("see(100000, 0)", x.see(100000, 0), BAD);
        Check.due("see(0, -1)", x.see(0, -1), BAD);
        Check.due("see(0, 21)", x.see(0, 21), BAD);
        Check.due("see(0, 0)", x.see(0, 0), 1);
        Check.due("see(99999, 20)", x.see(99999, 20), 2);
        for (int n = 3; n <= 5; n++) Check.due("see to " + n, x.see(5, 1), n);
        Check.due("see(5, 1) when full", x.see(5, 1), FULL);
        Check.due("see(5, 21) when full", x.see(5, 21), BAD);
        Check.due("count(2)", x.count(2), 5);
        Check.due("see(-1, 99)", x.see(-1, 99), 0);
        Check.due("count(2)", x.count(2), 0);
        Check.due("see(-1, -1)", x.see(-1, -1), 0);
        Check.due("see(7, 7)", x.see(7, 7), 1);
    }

    private static void skilled() {
        OneDidAll x = new OneDidAll();
        x.pupil(0, 0, 4, 99);
        x.pupil(5, 0, 2, 99);
        Check.due("skilled(0, 0): nothing seen", x.skilled(0, 0), 9);
        Check.due("skilled(0, 1): nothing seen", x.skilled(0, 1), 1);
        // The SHY one does 2, or 1 while the other has more SKILL.
        x.see(60, 2);
        dueTwo(x, 0, false, 0, -5);
        x.see(-1, 0);
        x.see(44, 2);
        dueTwo(x, 0, false, 1, 4);
        dueTwo(x, 1, false, 1, 2);
        x.see(0, 0);
        dueTwo(x, 0, false, 1, 4);
        x.see(440, 20);
        dueTwo(x, 0, false, 1, 4);
        x.see(441, 20);
        dueTwo(x, 0, false, 0, -5);
        x.see(-1, 0);
        x.see(44, 2);
        x.pass(7);
        dueTwo(x, 0, false, 1, 4);
        x.out(0, true);
        x.see(-1, 0);
        x.see(4, 1);
        dueTwo(x, 0, false, 9, 1);
        dueTwo(x, 1, false, 1, 2);
        Check.due("of(1, 2)", x.of(1, 2), 2);
        Check.due("skilled(2, 0)", x.skilled(2, 0), NONE);
        Check.due("skilled(-1, 0)", x.skilled(-1, 0), NONE);
        Check.due("skilled(0, 2)", x.skilled(0, 2), NONE);
        Check.due("skilled(0, -1)", x.skilled(0, -1), NONE);
        OneDidAll y = new OneDidAll();
        y.pupil(0, 0, 9, 99);
        y.see(45, 1);
        dueTwo(y, 0, false, 1, 9);
        y.see(-1, 0);
        y.see(5, 1);
        dueTwo(y, 0, false, 1, 1);
        y.see(-1, 0);
        y.see(50, 1);
        dueTwo(y, 0, false, 0, -5);
        y.see(-1, 0);
        y.see(1, 0);
        dueTwo(y, 0, false, 0, -5);
    }

    private static void dueTwo(OneDidAll x, int pupil, boolean isFirm, int howMany, int least) {
        String call = (isFirm ? "firm(" : "skilled(") + pupil;
        Check.due(call + ", 0)", isFirm ? x.firm(pupil, 0) : x.skilled(pupil, 0), howMany);
        Check.due(call + ", 1)", isFirm ? x.firm(pupil, 1) : x.skilled(pupil, 1), least);
    }

    private static void firm() {
        OneDidAll x = new OneDidAll();
        x.pupil(1, 3, 2, 99);
        dueTwo(x, 0, true, 10, 0);
        x.see(16, 1);
        dueTwo(x, 0, true, 2, 6);
        x.see(80, 5);
        dueTwo(x, 0, true, 2, 6);
        x.see(79, 5);
        dueTwo(x, 0, true, 0, -5);
        x.see(-1, 0);
        x.see(10, 1);
        dueTwo(x, 0, true, 2, 0);
        x.see(-1, 0);
        x.see(18, 1);
        dueTwo(x, 0, true, 2, 8);
        x.see(-1, 0);
        x.see(20, 1);
        dueTwo(x, 0, true, 0, -5);
        Check.teach(x, "spur 1 v=9");
        dueTwo(x, 0, true, 1, 9);
        Check.due("of(0, 1)", x.of(0, 1), 3);
        Check.due("firm(1, 0)", x.firm(1, 0), NONE);
        Check.due("firm(-1, 0)", x.firm(-1, 0), NONE);
        Check.due("firm(0, 2)", x.firm(0, 2), NONE);
        Check.due("firm(0, -1)", x.firm(0, -1), NONE);
    }

    private static void odds() {
        OneDidAll x = new OneDidAll();
        Check.due("odds without pupils", x.odds(0, 0, 0), NO);
        x.pupil(0, 0, 1, 99);
        dueOdds(x, 2, 0, 1, 1);
        dueOdds(x, 2, 1, 0, 1);
        x.pupil(0, 0, 2, 99);
        x.pupil(0, 0, 3, 99);
        // In 2 WEEKS 50, 40, 30 without the first, the second, the third.
        dueOdds(x, 2, 30, 1, 1);
        dueOdds(x, 2, 31, 2, 3);
        dueOdds(x, 2, 40, 2, 3);
        dueOdds(x, 2, 41, 1, 3);
        dueOdds(x, 2, 50, 1, 3);
        dueOdds(x, 2, 51, 0, 1);
        dueOdds(x, 0, 0, 1, 1);
        dueOdds(x, 0, 1, 0, 1);
        dueOdds(x, 60, 99999, 0, 1);
        x.out(2, true);
        // One who is OUT already is as likely as the others: 20, 10, 30.
        dueOdds(x, 2, 30, 1, 3);
        dueOdds(x, 2, 20, 2, 3);
        x.out(2, false);
        x.pupil(0, 0, 3, 99);
        // 80, 70, 60, 60.
        dueOdds(x, 2, 70, 1, 2);
        Check.due("odds(-1, 0, 0)", x.odds(-1, 0, 0), NO);
        Check.due("odds(61, 0, 0)", x.odds(61, 0, 0), NO);
        Check.due("odds(0, -1, 0)", x.odds(0, -1, 0), NO);
        Check.due("odds(0, 100000, 0)", x.odds(0, 100000, 0), NO);
        Check.due("odds(0, 0, 2)", x.odds(0, 0, 2), NO);
        Check.due("odds(0, 0, -1)", x.odds(0, 0, -1), NO);
    }

    private static void dueOdds(OneDidAll x, int n, int m, long above, long below) {
        Check.due("odds(" + n + ", " + m + ", 0)", x.odds(n, m, 0), above);
        Check.due("odds(" + n + ", " + m + ", 1)", x.odds(n, m, 1), below);
    }

    private static void mean() {
        OneDidAll x = new OneDidAll();
        Check.due("mean without pupils", x.mean(0, 1), NO);
        x.pupil(0, 0, 1, 4);
        Check.due("mean(1, 0) of one", x.mean(1, 0), 4);
        x.pupil(0, 0, 2, 99);
        x.pupil(0, 0, 3, 99);
        x.pass(3);
        // They do 4, 5, 5; WILL of the others goes down by 2 a WEEK, to 5 in 47 WEEKS.
        int[][] due = {{0, 0, 1}, {1, 14, 3}, {2, 28, 3}, {3, 14, 1}, {40, 560, 3}, {45, 210, 1}};
        for (int[] one : due) {
            Check.due("mean(" + one[0] + ", 0)", x.mean(one[0], 0), one[1]);
            Check.due("mean(" + one[0] + ", 1)", x.mean(one[0], 1), one[2]);
        }
        Check.teach(x, "fair 0");
        Check.due("mean(60, 0)", x.mean(60, 0), 280);
        x.out(1, true);
        Check.due("mean(1, 0) by all, OUT or not", x.mean(1, 0), 3);
        Check.due("mean(1, 1)", x.mean(1, 1), 1);
        Check.due("mean(-1, 0)", x.mean(-1, 0), NO);
        Check.due("mean(61, 0)", x.mean(61, 0), NO);
        Check.due("mean(1, 2)", x.mean(1, 2), NO);
        Check.due("mean(1, -1)", x.mean(1, -1), NO);
    }
}
