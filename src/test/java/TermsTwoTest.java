/** Terms 2: the edges of weeks to come, rules, groups, what is seen, odds, plans, books, acts, the image. */
public final class TermsTwoTest {
    private static final int NONE = -1, BAD = -2, STATE = -3, FULL = -4, NOTHING = -5;
    private static final long NO = Long.MIN_VALUE;

    public static void main(String[] args) {
        notHeldAlone();
        notHeldInGroups();
        notHeldFullHours();
        onAsPassed();
        onEdges();
        ready();
        spread();
        nearest();
        throwGreater();
        throwWhom();
        throwWeeks();
        alone();
        teamSizes();
        teamLeast();
        splitSizes();
        splitNearest();
        part();
        partInLowestTerms();
        seen();
        skilled();
        firm();
        odds();
        oddsOfAll();
        mean();
        plan();
        done();
        book();
        looked();
        wrapping();
        bodies();
        traceEdges();
        image();
        imageOfAll();
        Check.end();
    }

    /** A TOLD one of SKILL 3 that does 12, 6, 8, 10, 12 .. in the WEEKS from 9999 on, and a LEADER. */
    private static OneDidAll atTheEnd() {
        OneDidAll x = Rooms.late(0);
        x.will(0, 40);
        x.will(1, 60);
        Check.due("WEEK", x.told(0), 9999);
        Check.due("HOURS", x.of(0, 4), 9999);
        Check.due("WORK", x.told(1), 99999);
        return x;
    }

    private static void notHeldAlone() {
        Says.terms(2, "goes on from how all is (WEEK beyond 9999, HOURS, WORK not held), and changes nothing.");
        OneDidAll x = atTheEnd();
        x.out(1, true);
        int[] hours = {0, 12, 18, 26, 36, 48};
        for (int n = 0; n < 6; n++) {
            Check.due("on(" + n + ", 10)", x.on(n, 10), hours[n]);
            Check.due("on(" + n + ", 1)", x.on(n, 1), hours[n]);
            Check.due("on(" + n + ", 0)", x.on(n, 0), 3 * hours[n]);
            Check.due("on(" + n + ", 20)", x.on(n, 20), 40);
        }
        Check.due("on(60, 0)", x.on(60, 0), 3 * 15 * 36);
        x.see(24, 1);
        Check.due("skilled(0, 0)", x.skilled(0, 0), 1);
        Check.due("skilled(0, 1)", x.skilled(0, 1), 2);
        x.see(-1, 0);
        x.see(36, 1);
        Check.due("firm(0, 0)", x.firm(0, 0), 10);
        Check.due("odds(1, 36, 0)", x.odds(1, 36, 0), 1);
        Check.due("odds(1, 36, 1)", x.odds(1, 36, 1), 2);
        Check.due("mean(1, 0)", x.mean(1, 0), 6);
        x.plan(0, 0);
        x.plan(0, 0);
        Check.due("done(0)", x.done(0), 54);
        Check.due("done(1)", x.done(1), 18);
        Check.due("told(0)", x.told(0), 9999);
        Check.due("told(1)", x.told(1), 99999);
        Check.due("of(0, 4)", x.of(0, 4), 9999);
    }

    private static void notHeldInGroups() {
        OneDidAll x = atTheEnd();
        Check.due("ready()", x.ready(), 0);
        Check.due("alone(0)", x.alone(0), 5 * 36 * 3);
        Check.due("alone(1)", x.alone(1), 20 * 7);
        Check.due("team(1, 0)", x.team(1, 0), 1);
        Check.due("team(1, 1)", x.team(1, 1), (2 * 36 + 18) * 3);
        Check.due("split(1)", x.split(1), 270 - 70);
        Check.due("throwOut()", x.throwOut(), NOTHING);
        // In 5 WEEKS alone 144 and 35, both 144 + 30.
        Check.due("part(0, 0)", x.part(0, 0), 283);
        Check.due("part(0, 1)", x.part(0, 1), 2);
        Check.due("part(1, 0)", x.part(1, 0), 65);
        Check.due("part(1, 1)", x.part(1, 1), 2);
    }

    private static void notHeldFullHours() {
        OneDidAll x = Check.taught("spur 94 h>98;shirk 5 h<99");
        x.pupil(0, 0, 9, 99);
        Check.due("on(60, 1) without HOURS", x.on(60, 1), 0);
        Check.teach(x, "spur 94 p<9");
        x.pass(60);
        x.pass(50);
        Check.teach(x, "spur 94 h>99;spur 10 h=99");
        Check.due("HOURS", x.of(0, 4), 9999);
        // HOURS by 10 are 999 now, so that more than 99 is looked at too.
        Check.due("on(2, 1)", x.on(2, 1), 198);
        Check.due("on(60, 0)", x.on(60, 0), 60 * 99 * 9);
    }

    private static void onAsPassed() {
        Says.terms(2, "ON n WEEKS (0 .. 60): WORK more; HOURS of all more; HOURS more, WILL of one.");
        for (int n : new int[] {0, 1, 2, 59, 60}) {
            OneDidAll x = Rooms.some();
            int work = x.told(1);
            int hours = x.told(4);
            int hoursOfOne = x.of(1, 4);
            int workMore = x.on(n, 0);
            int hoursMore = x.on(n, 1);
            int hoursMoreOfOne = x.on(n, 11);
            int will = x.on(n, 21);
            Check.due("pass(" + n + ")", x.pass(n), work + workMore);
            Check.due("told(4)", x.told(4), hours + hoursMore);
            Check.due("of(1, 4)", x.of(1, 4), hoursOfOne + hoursMoreOfOne);
            Check.due("of(1, 3)", x.of(1, 3), will);
            Check.due("is there more?", workMore > 0 && hoursMore > hoursMoreOfOne && hoursMoreOfOne > 0 ? 1 : 0, n > 0 ? 1 : 0);
        }
    }

    private static void onEdges() {
        OneDidAll x = Rooms.plain(1, 2);
        for (int what : new int[] {0, 1, 10, 11, 20, 21}) {
            Check.due("on(-1, " + what + ")", x.on(-1, what), BAD);
            Check.due("on(0, " + what + ")", x.on(0, what), what >= 20 ? 99 : 0);
            Check.due("on(61, " + what + ")", x.on(61, what), BAD);
        }
        Check.due("on(59, 0)", x.on(59, 0), 59 * 15);
        Check.due("on(60, 0)", x.on(60, 0), 60 * 15);
        Check.due("on(60, 1)", x.on(60, 1), 60 * 10);
        Check.due("on(60, 11)", x.on(60, 11), 60 * 5);
        for (int what : new int[] {-1, 2, 9, 12, 16, 19, 22, 26}) Check.due("on(1, " + what + ")", x.on(1, what), NONE);
        OneDidAll nobody = new OneDidAll();
        Check.due("on(60, 0) without PUPILS", nobody.on(60, 0), 0);
        Check.due("on(60, 1) without PUPILS", nobody.on(60, 1), 0);
        Check.due("on(60, 10) without PUPILS", nobody.on(60, 10), NONE);
        Check.due("on(60, 20) without PUPILS", nobody.on(60, 20), NONE);
        OneDidAll six = Rooms.plain(1, 1, 1, 1, 1, 1);
        Check.due("on(1, 15) of six", six.on(1, 15), 5);
        Check.due("on(1, 25) of six", six.on(1, 25), 99);
        Check.due("on(1, 16) of six", six.on(1, 16), NONE);
        Check.due("on(1, 26) of six", six.on(1, 26), NONE);
    }

    /** One that does an hour a WEEK, SKILL 1. */
    private static OneDidAll slow(int goal) {
        OneDidAll x = Check.taught("shirk 4 p=0;goal " + goal);
        x.pupil(0, 0, 1, 99);
        return x;
    }

    private static void ready() {
        Says.terms(2, "READY: the fewest WEEKS (0 .. 60) behind which WORK is GOAL or more (-5: not by then).");
        for (int goal : new int[] {1, 2, 59, 60}) Check.due("ready() by GOAL " + goal, slow(goal).ready(), goal);
        Check.due("ready() by goal 0: GOAL 1", slow(0).ready(), 1);
        for (int goal : new int[] {61, 62, 99}) Check.due("ready() by GOAL " + goal, slow(goal).ready(), NOTHING);
        OneDidAll x = slow(61);
        x.pass(1);
        Check.due("ready() a WEEK on", x.ready(), 60);
        x.pass(59);
        Check.due("ready() by WORK one less", x.ready(), 1);
        x.pass(1);
        Check.due("ready() by WORK just GOAL", x.ready(), 0);
        x.pass(1);
        Check.due("ready() by WORK one more", x.ready(), 0);
        x.out(0, true);
        Check.due("ready() when it is, and all are OUT", x.ready(), 0);
        OneDidAll y = slow(7);
        y.out(0, true);
        Check.due("ready() when all are OUT", y.ready(), NOTHING);
        Check.due("ready() without PUPILS", Check.taught("goal 0").ready(), NOTHING);
        OneDidAll z = Check.taught("goal 10");
        z.pupil(0, 0, 1, 99);
        Check.due("ready(): just so", z.ready(), 2);
        Check.teach(z, "goal 11");
        Check.due("ready(): more than needed", z.ready(), 3);
        Check.teach(z, "goal 9");
        Check.due("ready(): more than needed", z.ready(), 2);
    }

    private static void spread() {
        Says.terms(2, "SPREAD of a RULE: the greatest MARK less the least of those who are not OUT (0: all are).");
        OneDidAll x = Rooms.eager(0, 0, 0);
        Rooms.work(x, 10, 20, 30);
        // SHARES 16, 33, 50.
        int[][] due = {{0, 50, 52, 0}, {0, 20, 21, 0}, {0, 0, 0, 0}, {0, 0, 0, 0}};
        for (int outs = 0; outs <= 3; outs++) {
            if (outs > 0) x.out(outs - 1, true);
            for (int rule = 0; rule < 4; rule++) {
                Check.due("spread(" + rule + ") when " + outs + " are OUT", x.spread(rule), due[outs][rule]);
            }
        }
        x.out(1, false);
        x.out(2, false);
        Check.due("mark(0, 1), who is OUT", x.mark(0, 1), 0);
        Check.due("spread(1): 80 and 100", x.spread(1), 20);
        Check.due("spread(-1)", x.spread(-1), NONE);
        Check.due("spread(4)", x.spread(4), NONE);
        OneDidAll y = Rooms.eager(0, 0);
        Rooms.work(y, 0, 99);
        Check.due("spread(1): 0 and 100", y.spread(1), 100);
        for (int rule = 0; rule < 4; rule++) {
            Check.due("spread(" + rule + ") without PUPILS", new OneDidAll().spread(rule), 0);
            Check.due("spread(" + rule + ") without WORK: MARKS are 0", Rooms.plain(1, 2).spread(rule), 0);
            OneDidAll z = Rooms.plain(9, 9);
            z.pass(1);
            Check.due("spread(" + rule + "): MARKS are 100", z.spread(rule), 0);
        }
    }

    private static void nearest() {
        Says.terms(2, "NEAREST: the RULE (0, 2 or 3) by which MARKS differ least from those by RULE 1, all differences (as far from 0) together (of several the first).");
        nearest(0, "0 and 2 are as far", 23, new int[] {2, 1}, new int[] {8, 3}, new int[] {3, 8}, new int[] {4, 5}, 12, 12, 122);
        nearest(0, "0 and 3 are as far", 12, new int[] {3, 0}, new int[] {5, 8}, new int[] {8, 9}, new int[] {3, 4}, 15, 35, 15);
        nearest(0, "all are as far", 54, new int[] {2, 3}, new int[] {0, 2}, new int[] {6, 9}, new int[] {2, 1}, 25, 25, 25);
        nearest(2, "2 and 3 are as far", 14, new int[] {3, 0, 1}, new int[] {6, 2, 4}, new int[] {5, 8, 6}, new int[] {1, 4, 1}, 100, 55, 55);
        nearest(3, "3 by one", 27, new int[] {0, 0, 1}, new int[] {5, 6, 9}, new int[] {7, 8, 9}, new int[] {4, 7, 4}, 40, 30, 29);
        nearest(2, "2 by one ahead of 3", 29, new int[] {2, 0, 1}, new int[] {9, 4, 3}, new int[] {7, 9, 7}, new int[] {3, 3, 6}, 50, 26, 27);
        nearest(3, "3 by one ahead of 0", 34, new int[] {1, 3, 1}, new int[] {8, 8, 9}, new int[] {6, 6, 5}, new int[] {2, 5, 2}, 68, 69, 67);
        nearest(2, "2 by one ahead of 0", 22, new int[] {2, 2}, new int[] {6, 0}, new int[] {7, 7}, new int[] {6, 7}, 8, 7, 38);
        nearest(0, "0 by one ahead of 2", 56, new int[] {2, 0}, new int[] {1, 5}, new int[] {2, 3}, new int[] {7, 7}, 0, 1, 98);
        Check.due("nearest() without PUPILS", new OneDidAll().nearest(), 0);
        OneDidAll x = Rooms.eager(0, 3);
        Check.due("nearest() without WORK", x.nearest(), 0);
        Rooms.work(x, 30, 40);
        x.out(0, true);
        x.out(1, true);
        Check.due("nearest() when all are OUT", x.nearest(), 0);
    }

    private static void nearest(int due, String how, int goal, int[] kinds, int[] vs, int[] skills, int[] hours, int... away) {
        OneDidAll x = Check.taught("goal " + goal + ";spur 94 p<9;fair 0");
        for (int p = 0; p < kinds.length; p++) x.pupil(kinds[p], vs[p], skills[p], hours[p]);
        x.pass(1);
        int[] rules = {0, 2, 3};
        for (int i = 0; i < 3; i++) {
            int together = 0;
            for (int p = 0; p < kinds.length; p++) together += Math.abs(x.mark(p, rules[i]) - x.mark(p, 1));
            Check.due("RULE " + rules[i] + " is away", together, away[i]);
        }
        Check.due("nearest(): " + how, x.nearest(), due);
    }

    /** A LEADER of SKILL 1 that would do 20 more in 20 WEEKS, and one who does so much once, in WEEK 3. */
    private static OneDidAll once(int does) {
        OneDidAll x = Check.taught("shirk 5 p=1;spur " + does + " p=1&w=3&h<1");
        x.pupil(4, 0, 1, 99);
        x.pupil(0, 0, 1, 99);
        return x;
    }

    private static void throwGreater() {
        Says.terms(2, "THROW: the one, not OUT, by whose being OUT from now on WORK more in 20 WEEKS is greatest, if greater than it is (of several the first; -5: none).");
        Check.due("throwOut(): by 1 greater", once(19).throwOut(), 1);
        Check.due("throwOut(): as great", once(20).throwOut(), NOTHING);
        Check.due("throwOut(): by 1 less", once(21).throwOut(), NOTHING);
        Check.due("throwOut() without PUPILS", new OneDidAll().throwOut(), NOTHING);
        Check.due("throwOut() of one", Rooms.plain(1).throwOut(), NOTHING);
        OneDidAll x = once(0);
        x.out(1, true);
        Check.due("throwOut() when it is OUT already", x.throwOut(), NOTHING);
        x.out(0, true);
        Check.due("throwOut() when all are OUT", x.throwOut(), NOTHING);
    }

    private static void throwWhom() {
        OneDidAll x = Check.taught("shirk 5 p=1;shirk 4 p=2;shirk 5 p=3;shirk 5 p=4;shirk 5 p=5;spur 1 p=1");
        x.pupil(4, 0, 9, 99);
        for (int p = 1; p < 6; p++) x.pupil(0, 0, 1, 99);
        // PUPILS 1 and 2 do one hour a WEEK, those behind nothing.
        Check.due("throwOut(): of several greatest the first", x.throwOut(), 3);
        x.out(3, true);
        Check.due("throwOut(): the next one", x.throwOut(), 4);
        x.out(4, true);
        x.out(5, true);
        Check.due("throwOut(): of those that do something the first", x.throwOut(), 1);
        x.out(1, true);
        Check.due("throwOut(): the last", x.throwOut(), 2);
        x.out(2, true);
        Check.due("throwOut(): the LEADER alone", x.throwOut(), NOTHING);
        x.out(4, false);
        Check.due("throwOut(): one who came back", x.throwOut(), 4);
        OneDidAll y = Check.taught("shirk 5 p<5");
        for (int p = 0; p < 5; p++) y.pupil(0, 0, 1, 99);
        y.pupil(4, 0, 1, 99);
        for (int p = 0; p < 5; p++) {
            Check.due("throwOut(): the first of those left", y.throwOut(), p);
            y.out(p, true);
        }
        Check.due("throwOut(): of none left", y.throwOut(), NOTHING);
    }

    /** What is done in a WEEK modulo 10 alone is done twice in 20 WEEKS, not once as in 19 or three times as in 21. */
    private static void throwWeeks() {
        for (int week = 0; week <= 9; week += 9) {
            int[] due = {1, NOTHING, NOTHING};
            for (int does = 9; does <= 11; does++) {
                OneDidAll x = Check.taught("shirk 5 p=1;spur " + does + " p=1&w=" + week);
                x.pupil(4, 0, 1, 99);
                x.pupil(0, 0, 1, 99);
                Check.due("throwOut() of one who does " + does + " in WEEKS " + week + ", " + (week + 10), x.throwOut(), due[does - 9]);
            }
        }
    }

    private static void alone() {
        Says.terms(2, "ALONE of one: WORK more in 20 WEEKS, were all others OUT (and it not).");
        OneDidAll x = Check.taught("shirk 5 w<9");
        for (int skill = 1; skill <= 6; skill++) x.pupil(0, 0, skill, 99);
        for (int p = 0; p < 6; p++) Check.due("alone(" + p + ") in WEEKS 9, 19", x.alone(p), 10 * (p + 1));
        x.pass(1);
        for (int p = 0; p < 6; p++) Check.due("alone(" + p + ") in WEEKS 9, 19", x.alone(p), 10 * (p + 1));
        for (int p = 0; p < 6; p++) x.out(p, true);
        for (int p = 0; p < 6; p++) Check.due("alone(" + p + ") when all are OUT", x.alone(p), 10 * (p + 1));
        Check.due("alone(-1)", x.alone(-1), NONE);
        Check.due("alone(6)", x.alone(6), NONE);
        OneDidAll y = new OneDidAll();
        y.pupil(4, 0, 1, 99);
        Check.due("alone(0) of one: no others are OUT", y.alone(0), 100);
        y.pupil(0, 0, 1, 99);
        Check.due("alone(0) of two: one is OUT", y.alone(0), 120);
        Check.due("alone(0) without PUPILS", new OneDidAll().alone(0), NONE);
    }

    private static void teamSizes() {
        Says.terms(2, "TEAM of k (1 .. 6): of all sets of k PUPILS, all others being OUT (those of the set not), that by which WORK more in 10 WEEKS "
            + "is greatest (of several the least as bits): which, as bits (-5: there are fewer); how much.");
        for (int size = 0; size <= 6; size++) {
            OneDidAll x = new OneDidAll();
            for (int p = 0; p < size; p++) x.pupil(0, 0, 1, 99);
            for (int k = 1; k <= 6; k++) {
                Check.due("team(" + k + ", 0) of " + size, x.team(k, 0), k <= size ? (1 << k) - 1 : NOTHING);
                Check.due("team(" + k + ", 1) of " + size, x.team(k, 1), k <= size ? 50 * k : NOTHING);
            }
            for (int what = 0; what < 2; what++) {
                Check.due("team(0, " + what + ") of " + size, x.team(0, what), BAD);
                Check.due("team(7, " + what + ") of " + size, x.team(7, what), BAD);
            }
        }
    }

    private static void teamLeast() {
        OneDidAll x = Rooms.plain(1, 9, 1, 9, 9, 1);
        int[] which = {2, 10, 26, 27, 31, 63};
        int[] much = {450, 900, 1350, 1400, 1450, 1500};
        for (int k = 1; k <= 6; k++) {
            Check.due("team(" + k + ", 0)", x.team(k, 0), which[k - 1]);
            Check.due("team(" + k + ", 1)", x.team(k, 1), much[k - 1]);
        }
        for (int p = 0; p < 6; p++) x.out(p, true);
        Check.due("team(2, 0) when all are OUT", x.team(2, 0), 10);
        Check.due("team(2, 1) when all are OUT", x.team(2, 1), 900);
        OneDidAll y = Check.taught("shirk 5 p<9");
        for (int p = 0; p < 6; p++) y.pupil(0, 0, 1, 99);
        for (int k = 1; k <= 6; k++) {
            Check.due("team(" + k + ", 0) of those who do nothing", y.team(k, 0), (1 << k) - 1);
            Check.due("team(" + k + ", 1) of those who do nothing", y.team(k, 1), 0);
        }
        OneDidAll z = Check.taught("shirk 5 p=1;spur 10 p=1&w=9;shirk 5 p=0;spur 9 p=0&w=0;spur 1 p=0&w=1");
        z.pupil(0, 0, 1, 99);
        z.pupil(0, 0, 1, 99);
        Check.due("team(1, 0): 10 WEEKS, as much", z.team(1, 0), 1);
        Check.due("team(1, 1)", z.team(1, 1), 10);
        z.pass(1);
        Check.due("team(1, 0): the 10th WEEK is 10", z.team(1, 0), 1);
        z.pupil(0, 0, 1, 99);
        Check.due("team(1, 0): a third one", z.team(1, 0), 4);
    }

    private static void splitSizes() {
        Says.terms(2, "SPLIT: of all ways to part all PUPILS into two sets, each with one at least, the first with PUPIL 0, that by which WORK more in 10 WEEKS "
            + "of the one set, and of the other, each being the only ones not OUT, are nearest to each other (of several that with the first set least as bits): "
            + "the first set (bits); how far (-5 each: there are fewer than two).");
        int[] first = {NOTHING, NOTHING, 1, 1, 3, 3, 7};
        int[] far = {NOTHING, NOTHING, 0, 50, 0, 50, 0};
        for (int size = 0; size <= 6; size++) {
            OneDidAll x = new OneDidAll();
            for (int p = 0; p < size; p++) x.pupil(0, 0, 1, 99);
            for (int round = 0; round < 2; round++) {
                Check.due("split(0) of " + size, x.split(0), first[size]);
                Check.due("split(1) of " + size, x.split(1), far[size]);
                Check.due("split(2) of " + size, x.split(2), NONE);
                for (int p = 0; p < size; p++) x.out(p, true);
            }
        }
    }

    private static void splitNearest() {
        int[][] skills = {{1, 2, 3, 4, 5, 5}, {9, 1, 1, 1, 1, 1}, {1, 1, 1, 1, 1, 9}, {5, 4, 3, 3, 2, 2}, {1, 9}, {9, 1}, {1, 2, 3}, {3, 2, 1}, {1, 3, 2}, {1, 9, 9, 1}};
        // Of 5, 4, 3, 3, 2, 2 the half is 9.5: PUPILS 0 and 1 alone have 9.
        int[] first = {15, 1, 31, 3, 1, 1, 3, 1, 5, 3};
        int[] far = {0, 200, 200, 50, 400, 400, 0, 0, 0, 0};
        for (int i = 0; i < skills.length; i++) {
            OneDidAll x = Rooms.plain(skills[i]);
            Check.due("split(0) of room " + i, x.split(0), first[i]);
            Check.due("split(1) of room " + i, x.split(1), far[i]);
        }
        OneDidAll all = Check.taught("shirk 5 p=1");
        all.pupil(4, 0, 9, 99);
        all.pupil(0, 0, 1, 99);
        // The LEADER alone has 540; with the other, if the second set might be empty, 450.
        Check.due("split(0): with one at least", all.split(0), 1);
        Check.due("split(1): with one at least", all.split(1), 540);
        OneDidAll nobody = Check.taught("shirk 5 p<9");
        for (int p = 0; p < 3; p++) nobody.pupil(0, 0, 1, 99);
        Check.due("split(0) of those who do nothing", nobody.split(0), 1);
        Check.due("split(1) of those who do nothing", nobody.split(1), 0);
    }

    private static void duePart(OneDidAll x, int pupil, long above, long below) {
        Check.due("part(" + pupil + ", 0)", x.part(pupil, 0), above);
        Check.due("part(" + pupil + ", 1)", x.part(pupil, 1), below);
    }

    private static void part() {
        Says.terms(2, "WORK of a group is that more in 5 WEEKS by these alone (nobody: 0): how much more WORK is by its coming, in the mean of all orders: "
            + "a fraction in lowest terms, what is above the line maybe below 0.");
        for (int size = 1; size <= 6; size++) {
            OneDidAll x = new OneDidAll();
            for (int p = 0; p < size; p++) x.pupil(0, 0, p + 1, 99);
            for (int p = 0; p < size; p++) duePart(x, p, 25 * (p + 1), 1);
            Check.due("part(" + size + ", 0)", x.part(size, 0), NO);
        }
        OneDidAll nothing = Check.taught("shirk 5 p=0");
        nothing.pupil(0, 0, 1, 99);
        duePart(nothing, 0, 0, 1);
        // In WEEK 4 alone, which is the 5th; behind one WEEK more it is the 4th.
        OneDidAll fifth = Check.taught("shirk 5 w<4;shirk 5 w>4");
        fifth.pupil(0, 0, 3, 99);
        duePart(fifth, 0, 15, 1);
        Check.teach(fifth, "shirk 5 w<5;shirk 5 w>5");
        duePart(fifth, 0, 0, 1);
        OneDidAll leader = new OneDidAll();
        leader.pupil(4, 0, 9, 99);
        leader.pupil(0, 0, 1, 0);
        duePart(leader, 1, -35, 2);
        leader.out(0, true);
        leader.out(1, true);
        duePart(leader, 1, -35, 2);
        Check.due("part(0, 0) without PUPILS", new OneDidAll().part(0, 0), NO);
        Check.due("part(0, 1) without PUPILS", new OneDidAll().part(0, 1), NO);
    }

    /** A SHY one of SKILL 1 does 5 hours a WEEK less one for each better one of the group, 0 at least. */
    private static void partInLowestTerms() {
        int[][] parts = {{45, 2}, {20, 1}, {35, 2}, {15, 1}, {25, 2}};
        for (int others = 1; others <= 5; others++) {
            OneDidAll x = Check.taught("spur 5 k=5");
            x.pupil(5, 0, 1, 99);
            for (int p = 0; p < others; p++) x.pupil(0, 0, 2, 99);
            // Beside s better ones it does 25 - 5 s in all; each s is as likely.
            duePart(x, 0, parts[others - 1][0], parts[others - 1][1]);
        }
        OneDidAll y = Check.taught("shirk 1 k=5");
        y.pupil(5, 0, 1, 99);
        for (int p = 0; p < 5; p++) y.pupil(0, 0, 2, 99);
        // 10, 5, 0, 0, 0, 0 beside 0 .. 5 better ones.
        duePart(y, 0, 5, 2);
        OneDidAll z = Check.taught("shirk 3 k=5");
        z.pupil(5, 0, 1, 99);
        for (int p = 0; p < 5; p++) z.pupil(0, 0, 2, 99);
        // 5 alone, nothing beside others.
        duePart(z, 0, 5, 6);
        duePart(z, 1, 299, 6);
    }

    private static void seen() {
        Says.terms(2, "SEEN told by hand: WORK more (0 .. 99999) behind n WEEKS (0 .. 20) from now; 5 at most.");
        OneDidAll x = Rooms.plain(1);
        Check.due("see(-2, 0)", x.see(-2, 0), BAD);
        Check.due("see(100000, 0)", x.see(100000, 0), BAD);
        Check.due("see(0, -1)", x.see(0, -1), BAD);
        Check.due("see(0, 21)", x.see(0, 21), BAD);
        Check.due("see(0, 0)", x.see(0, 0), 1);
        Check.due("see(99999, 20)", x.see(99999, 20), 2);
        Check.due("see(1, 19)", x.see(1, 19), 3);
        Check.due("see(99998, 1)", x.see(99998, 1), 4);
        Check.due("see, the 5th", x.see(5, 5), 5);
        Check.due("see, the 6th", x.see(5, 5), FULL);
        Check.due("count(2)", x.count(2), 5);
        Check.due("see(-1, 21)", x.see(-1, 21), 0);
        Check.due("count(2)", x.count(2), 0);
        Check.due("see, the first again", x.see(5, 5), 1);
    }

    private static void dueTwo(String call, int howMany, int least, long gotMany, long gotLeast) {
        Check.due(call + ", 0)", gotMany, howMany);
        Check.due(call + ", 1)", gotLeast, least);
    }

    private static void dueSkilled(OneDidAll x, int pupil, int howMany, int least) {
        dueTwo("skilled(" + pupil, howMany, least, x.skilled(pupil, 0), x.skilled(pupil, 1));
    }

    private static void dueFirm(OneDidAll x, int pupil, int howMany, int least) {
        dueTwo("firm(" + pupil, howMany, least, x.firm(pupil, 0), x.firm(pupil, 1));
    }

    private static void skilled() {
        Says.terms(2, "SKILLED of one: how many numbers (1 .. 9) there are by which, were that its SKILL, all of SEEN is so; the least (-5: none).");
        for (int skill = 0; skill <= 10; skill++) {
            OneDidAll x = Rooms.plain(5);
            dueSkilled(x, 0, 9, 1);
            x.see(5 * skill, 1);
            dueSkilled(x, 0, skill >= 1 && skill <= 9 ? 1 : 0, skill >= 1 && skill <= 9 ? skill : NOTHING);
            x.see(100 * skill, 20);
            dueSkilled(x, 0, skill >= 1 && skill <= 9 ? 1 : 0, skill >= 1 && skill <= 9 ? skill : NOTHING);
            for (int n = 0; n < 2; n++) x.see(0, 0);
            x.see(95 * skill, 19);
            dueSkilled(x, 0, skill >= 1 && skill <= 9 ? 1 : 0, skill >= 1 && skill <= 9 ? skill : NOTHING);
            x.see(-1, 0);
            x.see(5 * skill, 1);
            x.see(5 * skill + 1, 1);
            dueSkilled(x, 0, 0, NOTHING);
        }
        OneDidAll x = Rooms.plain(5);
        x.see(0, 0);
        dueSkilled(x, 0, 9, 1);
        x.see(1, 0);
        dueSkilled(x, 0, 0, NOTHING);
        x.see(-1, 0);
        for (int n = 1; n <= 4; n++) x.see(25 * n, n);
        x.see(24 * 5, 5);
        dueSkilled(x, 0, 0, NOTHING);
        OneDidAll y = Check.taught("spur 3 s>6;shirk 5 s<7");
        y.pupil(0, 0, 1, 99);
        y.see(0, 20);
        dueSkilled(y, 0, 6, 1);
        y.see(-1, 0);
        y.see(72, 1);
        dueSkilled(y, 0, 1, 9);
        OneDidAll z = Check.taught("shirk 5 s<7;spur 5 s<7&p=1");
        z.pupil(0, 0, 1, 99);
        z.out(0, true);
        z.see(0, 20);
        dueSkilled(z, 0, 9, 1);
        Check.due("of(0, 2)", z.of(0, 2), 1);
    }

    private static void firm() {
        Says.terms(2, "FIRM of one: how many numbers v (0 .. 9) likewise; the least (-5: none).");
        for (int half = -1; half <= 5; half++) {
            OneDidAll x = new OneDidAll();
            x.pupil(1, 5, 1, 99);
            dueFirm(x, 0, 10, 0);
            x.see(5 + half, 1);
            dueFirm(x, 0, half >= 0 && half <= 4 ? 2 : 0, half >= 0 && half <= 4 ? 2 * half : NOTHING);
            x.see(20 * (5 + half), 20);
            dueFirm(x, 0, half >= 0 && half <= 4 ? 2 : 0, half >= 0 && half <= 4 ? 2 * half : NOTHING);
            x.see(20 * (5 + half) + 1, 20);
            dueFirm(x, 0, 0, NOTHING);
        }
        for (int v = 0; v <= 9; v++) {
            OneDidAll y = Check.taught("spur 3 v=" + v);
            y.pupil(0, 4, 1, 99);
            y.see(8, 1);
            dueFirm(y, 0, 1, v);
            Check.due("of(0, 1)", y.of(0, 1), 4);
        }
    }

    private static void dueOdds(OneDidAll x, int n, int m, long above, long below) {
        dueTwo("odds(" + n + ", " + m, (int) above, (int) below, x.odds(n, m, 0), x.odds(n, m, 1));
    }

    private static void odds() {
        Says.terms(2, "ODDS of n and m (0 .. 60; 0 .. 99999): if one of all PUPILS, each alike likely, is OUT from now on: how likely WORK is m or more more "
            + "behind n WEEKS: a fraction in lowest terms (NO: there are none).");
        for (int part = 0; part < 2; part++) {
            OneDidAll nobody = new OneDidAll();
            Check.due("odds without PUPILS", nobody.odds(0, 0, part), NO);
            Check.due("odds without PUPILS", nobody.odds(60, 99999, part), NO);
            OneDidAll x = Rooms.plain(1);
            Check.due("odds(-1, 0, ..)", x.odds(-1, 0, part), NO);
            Check.due("odds(61, 0, ..)", x.odds(61, 0, part), NO);
            Check.due("odds(0, -1, ..)", x.odds(0, -1, part), NO);
            Check.due("odds(0, 100000, ..)", x.odds(0, 100000, part), NO);
        }
        OneDidAll x = Rooms.plain(1, 2, 3, 4, 5, 6);
        dueOdds(x, 0, 0, 1, 1);
        dueOdds(x, 0, 1, 0, 1);
        // In 60 WEEKS 300 by each SKILL: 6300 less that of the one.
        int[][] due = {{4500, 1, 1}, {4501, 5, 6}, {4800, 5, 6}, {4801, 2, 3}, {5101, 1, 2}, {5401, 1, 3}, {5701, 1, 6}, {6000, 1, 6}, {6001, 0, 1}};
        for (int[] one : due) dueOdds(x, 60, one[0], one[1], one[2]);
        OneDidAll one = Rooms.plain(9);
        dueOdds(one, 60, 0, 1, 1);
        dueOdds(one, 60, 1, 0, 1);
    }

    private static void oddsOfAll() {
        OneDidAll x = Check.taught("spur 94 p<9;fair 0");
        for (int p = 0; p < 3; p++) x.pupil(0, 0, 9, 99);
        // Two of them have 1782 in a WEEK: 99792 in 56, 101574 in 57.
        dueOdds(x, 60, 99999, 1, 1);
        dueOdds(x, 57, 99999, 1, 1);
        dueOdds(x, 56, 99999, 0, 1);
        dueOdds(x, 56, 99792, 1, 1);
        dueOdds(x, 56, 99793, 0, 1);
        OneDidAll y = Rooms.plain(1, 2, 3);
        y.out(2, true);
        // One who is OUT already is as likely as the others: 10, 5, 15 in a WEEK.
        dueOdds(y, 1, 15, 1, 3);
        dueOdds(y, 1, 10, 2, 3);
        dueOdds(y, 1, 5, 1, 1);
        dueOdds(y, 1, 16, 0, 1);
        Check.due("of(0, 5)", y.of(0, 5), 0);
    }

    private static void mean() {
        Says.terms(2, "MEAN of n (0 .. 60): HOURS of all more behind n WEEKS by how many PUPILS there are: a fraction in lowest terms (NO likewise).");
        for (int part = 0; part < 2; part++) {
            Check.due("mean without PUPILS", new OneDidAll().mean(0, part), NO);
            Check.due("mean without PUPILS", new OneDidAll().mean(60, part), NO);
            Check.due("mean(-1, ..)", Rooms.plain(1).mean(-1, part), NO);
            Check.due("mean(61, ..)", Rooms.plain(1).mean(61, part), NO);
        }
        OneDidAll x = Check.taught("shirk 5 p>0;shirk 4 p=0;fair 0");
        x.pupil(0, 0, 1, 99);
        int[][] due = {{0, 1, 60, 1}, {0, 1, 30, 1}, {0, 1, 20, 1}, {0, 1, 15, 1}, {0, 1, 12, 1}, {0, 1, 10, 1}};
        int[][] ofOne = {{1, 1}, {1, 2}, {1, 3}, {1, 4}, {1, 5}, {1, 6}};
        for (int size = 1; size <= 6; size++) {
            dueTwo("mean(0", due[size - 1][0], due[size - 1][1], x.mean(0, 0), x.mean(0, 1));
            dueTwo("mean(60", due[size - 1][2], due[size - 1][3], x.mean(60, 0), x.mean(60, 1));
            dueTwo("mean(1", ofOne[size - 1][0], ofOne[size - 1][1], x.mean(1, 0), x.mean(1, 1));
            x.pupil(0, 0, 1, 99);
        }
        dueTwo("mean(4", 2, 3, x.mean(4, 0), x.mean(4, 1));
        dueTwo("mean(59", 59, 6, x.mean(59, 0), x.mean(59, 1));
        for (int p = 0; p < 6; p++) x.out(p, true);
        dueTwo("mean(60: all are OUT", 0, 1, x.mean(60, 0), x.mean(60, 1));
    }

    private static void plan() {
        Says.terms(2, "PLAN told by hand: rows of what 0 a WEEK goes (the other not looked at), 1 one is OUT, 2 one is not, 3 one has WILL 99; 8 at most.");
        OneDidAll x = Rooms.plain(1);
        Check.due("plan(-2, 0)", x.plan(-2, 0), NONE);
        Check.due("plan(4, 0)", x.plan(4, 0), NONE);
        for (int what = 0; what < 4; what++) Check.due("plan(" + what + ", 0)", x.plan(what, 0), what + 1);
        for (int what = 1; what < 4; what++) {
            Check.due("plan(" + what + ", 1)", x.plan(what, 1), NONE);
            Check.due("plan(" + what + ", -1)", x.plan(what, -1), NONE);
        }
        int[] others = {-1, 1, Integer.MIN_VALUE, Integer.MAX_VALUE};
        for (int i = 0; i < 4; i++) Check.due("plan(0, " + others[i] + ")", x.plan(0, others[i]), 5 + i);
        Check.due("plan, the 9th", x.plan(0, 0), FULL);
        Check.due("count(3)", x.count(3), 8);
        Check.due("done(1): of five WEEKS one without, four with it", x.done(1), 5 + 20);
        Check.due("plan(-1, -9)", x.plan(-1, -9), 0);
        Check.due("done(1): none", x.done(1), 0);
        Check.due("plan without PUPILS", new OneDidAll().plan(0, 0), 1);
        Check.due("plan without PUPILS", new OneDidAll().plan(1, 0), NONE);
    }

    private static void done() {
        Says.terms(2, "DONE: WORK more; HOURS of all more.");
        OneDidAll x = Rooms.plain(2, 3);
        x.out(1, true);
        x.will(0, 0);
        int[][] rows = {{0, 0}, {3, 0}, {0, 0}, {2, 1}, {2, 1}, {0, 0}, {1, 0}, {0, 0}};
        int[][] due = {{0, 0}, {0, 0}, {10, 5}, {10, 5}, {10, 5}, {35, 15}, {35, 15}, {50, 20}};
        Check.due("done(0) without rows", x.done(0), 0);
        Check.due("done(1) without rows", x.done(1), 0);
        for (int i = 0; i < 8; i++) {
            Check.due("plan(" + rows[i][0] + ", " + rows[i][1] + ")", x.plan(rows[i][0], rows[i][1]), i + 1);
            Check.due("done(0) behind row " + i, x.done(0), due[i][0]);
            Check.due("done(1) behind row " + i, x.done(1), due[i][1]);
        }
        Check.due("of(0, 3)", x.of(0, 3), 0);
        Check.due("of(1, 5)", x.of(1, 5), 1);
        OneDidAll y = Rooms.plain(9);
        for (int i = 1; i <= 8; i++) {
            y.plan(0, 0);
            Check.due("done(0) of " + i + " WEEKS", y.done(0), 45 * i);
        }
        Check.due("done(-1)", y.done(-1), NONE);
        Check.due("done(2)", y.done(2), NONE);
    }

    private static void book() {
        Says.terms(2, "BOOK told by hand: PUPILS and HOURS (0 .. 9999); 8 at most.");
        OneDidAll x = Rooms.plain(1, 1);
        Check.due("book(0, -1)", x.book(0, -1), BAD);
        Check.due("book(0, 10000)", x.book(0, 10000), BAD);
        Check.due("book(-2, 0)", x.book(-2, 0), NONE);
        Check.due("book(2, 0)", x.book(2, 0), NONE);
        Check.due("book(0, 0)", x.book(0, 0), 1);
        Check.due("book(1, 9999)", x.book(1, 9999), 2);
        for (int n = 3; n <= 8; n++) Check.due("book to " + n, x.book(n % 2, n), n);
        Check.due("book, the 9th", x.book(0, 0), FULL);
        Check.due("count(4)", x.count(4), 8);
        Check.due("book(-1, 10000)", x.book(-1, 10000), 0);
        Check.due("count(4)", x.count(4), 0);
        Check.due("book, the first again", x.book(1, 0), 1);
        Check.due("book without PUPILS", new OneDidAll().book(0, 0), NONE);
        Check.due("book(-1, 0) without PUPILS", new OneDidAll().book(-1, 0), 0);
    }

    private static void looked() {
        Says.terms(2, "LOOKED at: the first by which it is otherwise now (-5: none).");
        Check.due("looked() without rows", Rooms.plain(1).looked(), NOTHING);
        for (int other = 0; other <= 8; other++) {
            OneDidAll x = Rooms.plain(1, 1, 1);
            x.pass(1);
            for (int n = 0; n < 8; n++) x.book(n % 3, n < other ? 5 : n % 2 == 0 ? 4 : 6);
            Check.due("looked(): otherwise from row " + other + " on", x.looked(), other < 8 ? other : NOTHING);
            x.pass(1);
            Check.due("looked() a WEEK on", x.looked(), 0);
        }
        OneDidAll y = Rooms.eager(0);
        y.will(0, 99);
        y.pass(60);
        y.pass(60);
        y.book(0, 9999);
        Check.due("looked() at 9999 HOURS", y.looked(), NOTHING);
        y.book(0, 9998);
        Check.due("looked() at 9998 HOURS", y.looked(), 1);
    }

    private static void dueAct(OneDidAll x, int pupil, int act, int with, int answer, int... ran) {
        String call = "act(" + pupil + ", " + act + ", " + with + ")";
        Check.due(call, x.act(pupil, act, with), answer);
        Check.due(call + ", count(6)", x.count(6), ran.length);
        for (int i = 0; i < ran.length; i++) Check.due(call + ", trace(" + i + ")", x.trace(i), ran[i]);
        Check.due(call + ", trace(" + ran.length + ")", x.trace(ran.length), NONE);
    }

    private static void wrapping() {
        Says.terms(2, "ACTS of a PUPIL with x (ints, wrapping): thinks, writes, tells; i its number.");
        int most = Integer.MAX_VALUE;
        int least = Integer.MIN_VALUE;
        OneDidAll x = new OneDidAll();
        int[] kinds = {0, 1, 2, 3, 4, 5};
        for (int kind : kinds) x.pupil(kind, 1, 1, 0);
        // PUPIL 1 is a KEEN one: x * 3 + 1; 3 of it: a BOASTER, 4 a LEADER, 5 a SHY one.
        dueAct(x, 0, 0, most, most, 1);
        dueAct(x, 0, 0, least, least, 1);
        dueAct(x, 0, 1, least, most, 2, 1);
        dueAct(x, 0, 2, 1 << 30, -1073741824 * 2 - 2, 3, 2, 1);
        dueAct(x, 0, 2, least, -2, 3, 2, 1);
        dueAct(x, 1, 0, most, 2147483646, 11, 1);
        dueAct(x, 1, 0, least, -2147483647, 11, 1);
        dueAct(x, 1, 0, 715827883, -2147483646, 11, 1);
        dueAct(x, 1, 0, 715827882, 2147483647, 11, 1);
        dueAct(x, 2, 0, most, -2147483647, 1);
        dueAct(x, 2, 1, most, least, 21, 2, 1);
        dueAct(x, 2, 1, 2147483645, -2147483646, 21, 2, 1);
        dueAct(x, 3, 2, most, 5, 31, 3, 2, 1);
        dueAct(x, 4, 0, least, -2147483644, 11, 1);
        // (x - 1) * 3 + 4 - 1 is x * 3, twice; thinks(2) is 10.
        dueAct(x, 4, 2, least, 10, 41, 3, 2, 11, 1, 11, 1);
        dueAct(x, 4, 2, most, 4, 41, 3, 2, 11, 1, 11, 1);
        dueAct(x, 5, 0, most, -2147483647, 51, 1);
        OneDidAll y = new OneDidAll();
        y.pupil(6, 9, 1, 0);
        dueAct(y, 0, 1, least, least, 61, 2, 1);
        dueAct(y, 0, 2, 1 << 30, (1 << 31) ^ 7, 31, 3, 61, 2, 1);
    }

    private static void bodies() {
        Says.terms(2, "thinks(..) and so on: the body of its KIND, or, if that has none, of the next KIND above that has one; super.thinks(..): so from the KIND above the body's on; "
            + "what stands in a body is done from the left on.");
        OneDidAll x = new OneDidAll();
        for (int kind = 1; kind <= 6; kind++) x.pupil(kind, 7, 1, 0);
        dueAct(x, 0, 0, 10, 30, 11, 1);
        dueAct(x, 0, 1, 10, 23, 2, 11, 1);
        dueAct(x, 0, 2, 10, 46, 3, 2, 11, 1);
        dueAct(x, 1, 0, 10, 11, 1);
        dueAct(x, 1, 1, 10, -4, 21, 2, 1);
        dueAct(x, 1, 2, 10, -8, 3, 21, 2, 1);
        dueAct(x, 2, 0, 10, 12, 1);
        dueAct(x, 2, 1, 10, 5, 2, 1);
        dueAct(x, 2, 2, 10, 10 ^ 7, 31, 3, 2, 1);
        dueAct(x, 3, 0, 10, 33, 11, 1);
        dueAct(x, 3, 1, 10, 26, 2, 11, 1);
        dueAct(x, 3, 2, 10, 46 + 9, 41, 3, 2, 11, 1, 11, 1);
        dueAct(x, 4, 0, 10, 14 ^ 4, 51, 1);
        dueAct(x, 4, 1, 10, 7 - 10, 21, 2, 51, 1);
        dueAct(x, 4, 2, 10, -6, 3, 21, 2, 51, 1);
        dueAct(x, 5, 0, 10, 15, 1);
        dueAct(x, 5, 1, 10, 15, 61, 2, 1);
        dueAct(x, 5, 2, 10, 30 ^ 7, 31, 3, 61, 2, 1);
    }

    private static void traceEdges() {
        Says.terms(2, "THE TRACE: the numbers of the bodies that ran in the latest act(), as they began; the first 20 are kept.");
        OneDidAll x = new OneDidAll();
        x.pupil(4, 1, 1, 0);
        Check.due("trace(0) ahead of all acts", x.trace(0), NONE);
        for (int again = 0; again < 5; again++) dueAct(x, 0, 2, 1, 4, 41, 3, 2, 11, 1, 11, 1);
        for (int i : new int[] {-1, 7, 8, 19, 20, 21}) Check.due("trace(" + i + ")", x.trace(i), NONE);
        dueAct(x, 0, 0, 1, 3, 11, 1);
        Check.due("trace(2) behind a shorter act", x.trace(2), NONE);
        dueAct(x, 1, 0, 1, 0);
        dueAct(x, 0, 2, 1, 4, 41, 3, 2, 11, 1, 11, 1);
        dueAct(x, 0, 3, 1, 0);
        dueAct(x, -1, -1, 1, 0);
    }

    private static void image() {
        Says.terms(2, "THE IMAGE: all that there is (but THE IMAGE and THE TRACE).");
        OneDidAll x = Rooms.plain(1);
        Check.due("undo() without", x.undo(), STATE);
        Check.due("image()", x.image(), 1);
        x.pass(1);
        x.act(0, 1, 0);
        x.pupil(0, 0, 1, 0);
        Check.due("undo()", x.undo(), 1);
        Check.due("told(1)", x.told(1), 0);
        Check.due("count(6): THE TRACE is no part of it", x.count(6), 2);
        Check.due("trace(1)", x.trace(1), 1);
        x.pass(2);
        Check.due("undo(): THE IMAGE is there still", x.undo(), 1);
        Check.due("told(1)", x.told(1), 0);
        x.pass(3);
        Check.due("image() anew", x.image(), 1);
        Check.due("undo()", x.undo(), 1);
        Check.due("told(1)", x.told(1), 15);
        OneDidAll nobody = new OneDidAll();
        Check.due("image() of nothing", nobody.image(), 0);
        nobody.pupil(6, 9, 9, 99);
        Check.due("undo() to nothing", nobody.undo(), 0);
        Check.due("count(0)", nobody.count(0), 0);
        Check.due("of(0, 0)", nobody.of(0, 0), NONE);
    }

    private static void imageOfAll() {
        Twin.Made[] rooms = {Rooms::empty, Rooms::some, Rooms::full, Rooms::fullTape};
        for (int from = 0; from < rooms.length; from++) {
            OneDidAll x = rooms[from].make();
            int size = x.count(0);
            Check.due("image() of room " + from, x.image(), size);
            spoil(x);
            Check.due("undo() to room " + from, x.undo(), size);
            OneDidAll y = rooms[from].make();
            y.image();
            Twin.same("undo() to room " + from, x, y);
        }
    }

    /** Something else of all that there is, but no act. */
    private static void spoil(OneDidAll x) {
        x.pupil(6, 9, 9, 9);
        for (int k = 0; k < 4; k++) x.row(0, k, 9);
        x.pass(5);
        for (int p = 0; p < 6; p++) {
            x.will(p, 77);
            x.out(p, x.of(p, 5) == 0);
        }
        x.school();
        Check.teach(x, "fair 77;goal 7");
        Check.feedAll(x, "s");
        x.see(-1, 0);
        x.see(3, 3);
        x.plan(-1, 0);
        x.plan(3, 0);
        x.book(-1, 0);
        x.book(0, 3);
    }
}
