/** Promises 16 to 20: groups. */
public final class GroupsTest {
    private static final int NONE = -1, BAD = -2;
    private static final long NO = Long.MIN_VALUE;

    public static void main(String[] args) {
        throwOut();
        alone();
        team();
        split();
        part();
        Check.end();
    }

    /** PUPILS of kind 0 who do 5 hours a WEEK each, with these SKILLS. */
    private static OneDidAll skilledOnes(int... skills) {
        OneDidAll x = new OneDidAll();
        for (int skill : skills) x.pupil(0, 0, skill, 99);
        return x;
    }

    private static void throwOut() {
        OneDidAll x = new OneDidAll();
        Check.due("throwOut() without pupils", x.throwOut(), -5);
        x.pupil(4, 0, 9, 99);
        Check.due("throwOut() of one", x.throwOut(), -5);
        x.pupil(0, 0, 2, 99);
        // With both 20 * (45 + 10), without the second 20 * 54.
        Check.due("throwOut(): not greater", x.throwOut(), -5);
        x.pupil(0, 0, 1, 99);
        x.pupil(0, 0, 1, 99);
        // Each OUT has the leader do 9 more, and 5 less is done by it.
        Check.due("throwOut(): of several the first", x.throwOut(), 2);
        Check.due("of(2, 5)", x.of(2, 5), 0);
        x.out(2, true);
        Check.due("throwOut(): the other", x.throwOut(), 3);
        x.out(3, true);
        Check.due("throwOut(): none", x.throwOut(), -5);
        OneDidAll y = Check.taught("shirk 5 p<2");
        y.pupil(0, 0, 1, 9);
        y.pupil(0, 0, 1, 9);
        Check.due("throwOut(): as much is not greater", y.throwOut(), -5);
        // In 20 WEEKS the leader would do 20 more; the other does 10 (or 9) in WEEKS 9 and 19.
        Check.due("throwOut(): 20 for 20", rareWorker(10).throwOut(), -5);
        Check.due("throwOut(): 20 for 18", rareWorker(9).throwOut(), 1);
        OneDidAll z = Check.taught("shirk 5 p<5");
        for (int i = 0; i < 5; i++) z.pupil(0, 0, 1, 9);
        z.pupil(4, 0, 1, 99);
        Check.due("throwOut(): the first of six", z.throwOut(), 0);
    }

    private static OneDidAll rareWorker(int does) {
        OneDidAll x = Check.taught("shirk 5 p=1;spur " + does + " p=1&w=9");
        x.pupil(4, 0, 1, 99);
        x.pupil(0, 0, 1, 99);
        return x;
    }

    private static void alone() {
        OneDidAll x = skilledOnes(1, 2);
        x.pupil(4, 5, 3, 99);
        Check.due("alone(0)", x.alone(0), 100);
        Check.due("alone(1)", x.alone(1), 200);
        Check.due("alone(2)", x.alone(2), 20 * 9 * 3);
        x.out(1, true);
        Check.due("alone(1) when it is OUT", x.alone(1), 200);
        x.pass(3);
        Check.due("alone(0) later", x.alone(0), 100);
        Check.due("alone(3)", x.alone(3), NONE);
        Check.due("alone(-1)", x.alone(-1), NONE);
    }

    private static void team() {
        OneDidAll x = skilledOnes(1, 3, 2, 3);
        int[][] due = {{2, 150}, {10, 300}, {14, 400}, {15, 450}, {-5, -5}, {-5, -5}};
        for (int k = 1; k <= 6; k++) {
            for (int what = 0; what < 2; what++) {
                Check.due("team(" + k + ", " + what + ")", x.team(k, what), due[k - 1][what]);
            }
        }
        x.out(1, true);
        Check.due("team(1, 0) when one is OUT", x.team(1, 0), 2);
        Check.due("team(0, 0)", x.team(0, 0), BAD);
        Check.due("team(7, 1)", x.team(7, 1), BAD);
        Check.due("team(-1, 0)", x.team(-1, 0), BAD);
        Check.due("team(1, 2)", x.team(1, 2), NONE);
        Check.due("team(0, -1)", x.team(0, -1), NONE);
        x.pupil(0, 0, 1, 0);
        x.pupil(0, 0, 1, 0);
        Check.due("team(6, 0)", x.team(6, 0), 63);
        OneDidAll y = Check.taught("shirk 5 p<9");
        y.pupil(0, 0, 1, 9);
        y.pupil(0, 0, 1, 9);
        Check.due("team(1, 0) who do nothing", y.team(1, 0), 1);
        Check.due("team(1, 1) who do nothing", y.team(1, 1), 0);
        OneDidAll z = new OneDidAll();
        Check.due("team(1, 0) without pupils", z.team(1, 0), -5);
        Check.due("team(0, 0) without pupils", z.team(0, 0), BAD);
    }

    private static void split() {
        OneDidAll x = skilledOnes(1);
        Check.due("split(0) of one", x.split(0), -5);
        Check.due("split(1) of one", x.split(1), -5);
        Check.due("split(2) of one", x.split(2), NONE);
        Check.due("split(-1)", x.split(-1), NONE);
        x.pupil(0, 0, 2, 99);
        Check.due("split(0) of two", x.split(0), 1);
        Check.due("split(1) of two", x.split(1), 50);
        x.pupil(0, 0, 3, 99);
        Check.due("split(0) of three", x.split(0), 3);
        Check.due("split(1) of three", x.split(1), 0);
        x.pupil(0, 0, 4, 99);
        x.out(3, true);
        Check.due("split(0) of four", x.split(0), 9);
        Check.due("split(1) of four", x.split(1), 0);
        OneDidAll y = skilledOnes(1, 1, 1);
        Check.due("split(0): the least as bits", y.split(0), 1);
        Check.due("split(1)", y.split(1), 50);
        OneDidAll z = skilledOnes(1, 1, 1, 1, 1, 9);
        Check.due("split(0): one in the other set", z.split(0), 31);
        Check.due("split(1)", z.split(1), 200);
        OneDidAll u = Check.taught("shirk 5 p=1");
        u.pupil(4, 0, 9, 99);
        u.pupil(0, 0, 1, 99);
        // All in one set would be nearer: 450 and 0 in place of 540 and 0.
        Check.due("split(0): one at least in each", u.split(0), 1);
        Check.due("split(1)", u.split(1), 540);
    }

    private static void part() {
        OneDidAll x = new OneDidAll();
        Check.due("part(0, 0) without pupils", x.part(0, 0), NO);
        x.pupil(4, 0, 1, 99);
        Check.due("part(0, 0) of one", x.part(0, 0), 25);
        Check.due("part(0, 1) of one", x.part(0, 1), 1);
        x.pupil(0, 0, 1, 99);
        x.pupil(0, 0, 1, 99);
        // Alone the leader does 35 in 5 WEEKS, with one 30, with both 25.
        Check.due("part(0, 0)", x.part(0, 0), 30);
        Check.due("part(0, 1)", x.part(0, 1), 1);
        for (int p = 1; p < 3; p++) {
            Check.due("part(" + p + ", 0)", x.part(p, 0), 45);
            Check.due("part(" + p + ", 1)", x.part(p, 1), 2);
        }
        x.out(1, true);
        Check.due("part(1, 0) when it is OUT", x.part(1, 0), 45);
        Check.due("part(3, 0)", x.part(3, 0), NO);
        Check.due("part(-1, 0)", x.part(-1, 0), NO);
        Check.due("part(0, 2)", x.part(0, 2), NO);
        Check.due("part(0, -1)", x.part(0, -1), NO);
        OneDidAll y = Check.taught("shirk 5 p=0");
        y.pupil(4, 0, 9, 99);
        y.pupil(0, 0, 9, 99);
        // The leader does 1 hour a WEEK alone, WORK 45 in all, and nothing with the other, who has 225.
        Check.due("part(0, 0)", y.part(0, 0), 45);
        Check.due("part(0, 1)", y.part(0, 1), 2);
        Check.due("part(1, 0)", y.part(1, 0), 225 + 225 - 45);
        Check.due("part(1, 1)", y.part(1, 1), 2);
        OneDidAll z = Check.taught("shirk 5 p=0");
        z.pupil(0, 0, 9, 99);
        z.pupil(0, 0, 9, 99);
        Check.due("part(0, 0) of nothing", z.part(0, 0), 0);
        Check.due("part(0, 1) of nothing", z.part(0, 1), 1);
        // Behind s of five others a leader's coming is worth 50 - 5 s; of four 45 - 5 s; of three 40 - 5 s.
        partOfLeader(5, 75, 2, 45, 2);
        partOfLeader(4, 35, 1, 45, 2);
        partOfLeader(3, 65, 2, 45, 2);
        OneDidAll u = new OneDidAll();
        u.pupil(4, 0, 9, 99);
        u.pupil(0, 0, 1, 0);
        // Ahead 5 * 54 alone; the idle one comes first to nothing, or takes 45 away and does 10.
        Check.due("part(1, 0): below 0", u.part(1, 0), -35);
        Check.due("part(1, 1)", u.part(1, 1), 2);
    }

    private static void partOfLeader(int others, long above, long below, long aboveOthers, long belowOthers) {
        OneDidAll x = new OneDidAll();
        x.pupil(4, 0, 1, 99);
        for (int i = 0; i < others; i++) x.pupil(0, 0, 1, 99);
        Check.due("part(0, 0) beside " + others, x.part(0, 0), above);
        Check.due("part(0, 1) beside " + others, x.part(0, 1), below);
        Check.due("part(1, 0) of " + others, x.part(1, 0), aboveOthers);
        Check.due("part(1, 1) of " + others, x.part(1, 1), belowOthers);
    }
}
