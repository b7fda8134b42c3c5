/** Terms 1: the edges of ZEAL, of what is done in a WEEK, of SHARES, CLAIMS, MARKS. */
public final class TermsOneWeekTest {
    public static void main(String[] args) {
        zealAtLeast();
        doesAtMost();
        keenHalf();
        idleHalf();
        leaderAndOuts();
        shyAndBetter();
        toldByWeek();
        hoursAtMost();
        workAtMost();
        averageIsCut();
        fairAtLeast();
        willAtMost();
        outsAndNobody();
        aheadOfIt();
        shares();
        claimsOfKinds();
        claimsOfTold();
        base();
        marks();
        marksByHours();
        marksByClaims();
        marksByLeastSkill();
        Check.end();
    }

    /** One PUPIL with a ZEAL of its own; the others' is 5. */
    private static OneDidAll zealous(int kind, int v, int zeal) {
        OneDidAll x = Check.taught(zeal < 5 ? "shirk " + (5 - zeal) + " p=0" : "spur " + (zeal - 5) + " p=0");
        x.pupil(kind, v, 5, 99);
        Check.due("ZEAL", x.of(0, 6), zeal);
        return x;
    }

    private static void zealAtLeast() {
        Says.terms(1, "ZEAL of one: 5, and the n of all spur whose E holds, less those of all shirk, together (0 at least).");
        String[] texts = {
            "shirk 4 p=0", "shirk 5 p=0", "shirk 6 p=0", "shirk 99 p=0", "shirk 6 p=0;spur 1 p=0", "shirk 6 p=0;spur 2 p=0",
            "shirk 99 p=0;spur 94 p=0", "shirk 99 p=0;spur 95 p=0", "spur 95 p=0;shirk 99 p=0", "shirk 0 p=0", "spur 0 p=0",
            "spur 99 p=0;spur 99 p=0;spur 99 p=0", "shirk 3 p=0;shirk 3 p=0;spur 3 p=0;shirk 3 p=0", "shirk 6 p=1",
        };
        int[] due = {1, 0, 0, 0, 0, 1, 0, 1, 1, 5, 5, 302, 0, 5};
        for (int i = 0; i < texts.length; i++) {
            OneDidAll x = Check.taught(texts[i]);
            x.pupil(0, 0, 1, 0);
            Check.due("ZEAL by " + texts[i], x.of(0, 6), due[i]);
        }
    }

    private static void doesAtMost() {
        Says.terms(1, "DOES of one (so many hours a WEEK; 0 at least, WILL at most, in the end; 0, if it is OUT): PUPIL, BOASTER: ZEAL.");
        int[] kinds = {0, 1, 2, 3, 4, 5, 6};
        int[] does = {20, 22, 10, 20, 22, 9, 27};
        for (int kind : kinds) {
            OneDidAll x = zealous(kind, 4, 20);
            x.pupil(0, 0, 6, 0);
            x.row(0, 0, 7);
            for (int will : new int[] {0, 1, does[kind] - 1, does[kind], does[kind] + 1, 99}) {
                x.will(0, will);
                Check.due("DOES of kind " + kind + " by WILL " + will, x.of(0, 7), Math.min(will, does[kind]));
                Check.due("on(1, 10) of kind " + kind, x.on(1, 10), Math.min(will, does[kind]));
            }
            x.out(0, true);
            Check.due("DOES of one who is OUT", x.of(0, 7), 0);
            Check.due("ZEAL of one who is OUT", x.of(0, 6), 20);
            x.out(0, false);
            Check.due("DOES of one who is not OUT", x.of(0, 7), does[kind]);
        }
        for (int kind : new int[] {0, 3}) {
            for (int zeal : new int[] {0, 1, 98, 99, 100, 104}) {
                Check.due("DOES by ZEAL " + zeal, zealous(kind, 9, zeal).of(0, 7), Math.min(99, zeal));
            }
        }
    }

    private static void keenHalf() {
        Says.terms(1, "KEEN: ZEAL, and the half (cut) of v.");
        int[] halves = {0, 0, 1, 1, 2, 2, 3, 3, 4, 4};
        for (int v = 0; v <= 9; v++) {
            for (int zeal : new int[] {0, 1, 5, 90}) {
                Check.due("DOES by v " + v, zealous(1, v, zeal).of(0, 7), zeal + halves[v]);
                Check.due("DOES of a LEADER by v " + v, zealous(4, v, zeal).of(0, 7), zeal + halves[v]);
            }
        }
        OneDidAll x = zealous(1, 9, 96);
        Check.due("DOES: WILL at most", x.of(0, 7), 99);
    }

    private static void idleHalf() {
        Says.terms(1, "IDLE: the half (cut) of ZEAL.");
        int[] halves = {0, 0, 1, 1, 2, 2, 3, 3};
        for (int zeal = 0; zeal < 8; zeal++) {
            Check.due("DOES by ZEAL " + zeal, zealous(2, 9, zeal).of(0, 7), halves[zeal]);
            Check.due("DOES of a SHY one by ZEAL " + zeal, zealous(5, 9, zeal).of(0, 7), halves[zeal]);
        }
        OneDidAll x = zealous(2, 0, 60);
        x.will(0, 30);
        Check.due("DOES: WILL at most, in the end", x.of(0, 7), 30);
        x.will(0, 29);
        Check.due("DOES: WILL at most, in the end", x.of(0, 7), 29);
    }

    private static void leaderAndOuts() {
        Says.terms(1, "LEADER: as KEEN, and 1 for each who is OUT.");
        OneDidAll x = zealous(4, 3, 7);
        for (int p = 1; p < 6; p++) x.pupil(p % 4, 0, p, 0);
        for (int outs = 0; outs <= 5; outs++) {
            Check.due("DOES when " + outs + " are OUT", x.of(0, 7), 7 + 1 + outs);
            x.will(0, 7 + outs);
            Check.due("DOES: WILL at most, in the end", x.of(0, 7), 7 + outs);
            x.will(0, 99);
            if (outs < 5) x.out(5 - outs, true);
        }
        x.out(0, true);
        Check.due("DOES when it is OUT itself", x.of(0, 7), 0);
        OneDidAll y = zealous(1, 3, 7);
        y.pupil(0, 0, 1, 0);
        y.out(1, true);
        Check.due("DOES of a KEEN one: by nobody's being OUT", y.of(0, 7), 8);
    }

    private static void shyAndBetter() {
        Says.terms(1, "SHY: as IDLE, less 1 for each other one of more SKILL who is not OUT.");
        OneDidAll x = zealous(5, 0, 6);
        int[] skills = {4, 5, 6, 9, 7};
        int[] does = {3, 3, 2, 1, 0};
        for (int i = 0; i < 5; i++) {
            x.pupil(i, 0, skills[i], 0);
            Check.due("DOES beside one more, of SKILL " + skills[i], x.of(0, 7), does[i]);
        }
        int[] back = {0, 0, 1, 2, 3};
        for (int i = 0; i < 5; i++) {
            x.out(i + 1, true);
            Check.due("DOES when one more is OUT, of SKILL " + skills[i], x.of(0, 7), back[i]);
        }
        OneDidAll last = new OneDidAll();
        for (int p = 0; p < 6; p++) last.pupil(5, 0, 6 - p, 99);
        for (int p = 0; p < 6; p++) Check.due("DOES of " + p + ", so many better ones ahead of it", last.of(p, 7), Math.max(0, 2 - p));
        for (int zeal = 0; zeal < 14; zeal++) {
            OneDidAll y = zealous(5, 0, zeal);
            for (int p = 0; p < 5; p++) y.pupil(5, 0, 6, 0);
            Check.due("DOES beside five better ones, 0 at least", y.of(0, 7), Math.max(0, zeal / 2 - 5));
        }
        OneDidAll z = zealous(5, 0, 20);
        for (int p = 0; p < 3; p++) z.pupil(0, 0, 9, 0);
        z.will(0, 7);
        Check.due("DOES: WILL at most, in the end alone", z.of(0, 7), 7);
        z.will(0, 6);
        Check.due("DOES: WILL at most", z.of(0, 7), 6);
    }

    private static void toldByWeek() {
        Says.terms(1, "TOLD: as BOASTER, and its ROW at WEEK modulo 4 more.");
        OneDidAll x = zealous(6, 9, 2);
        int[] row = {1, 9, 0, 4};
        for (int k = 0; k < 4; k++) x.row(0, k, row[k]);
        int[] does = {3, 11, 2, 6, 3, 11, 2, 6, 3};
        int hours = 0;
        for (int week = 0; week < 9; week++) {
            Check.due("DOES in WEEK " + week, x.of(0, 7), does[week]);
            x.pass(1);
            hours += does[week];
            Check.due("HOURS behind WEEK " + week, x.of(0, 4), hours);
        }
        x.will(0, 10);
        Check.due("DOES: WILL at most, in the end", x.of(0, 7), 10);
        OneDidAll y = zealous(6, 0, 0);
        y.row(0, 0, 9);
        Check.due("DOES by its ROW alone", y.of(0, 7), 9);
        rowsOfSix();
    }

    private static void rowsOfSix() {
        OneDidAll x = new OneDidAll();
        for (int p = 0; p < 6; p++) x.pupil(6, 0, 1, 99);
        for (int p = 0; p < 6; p++) {
            for (int k = 0; k < 4; k++) x.row(p, k, p + k);
        }
        x.image();
        for (int p = 0; p < 6; p++) {
            for (int k = 0; k < 4; k++) x.row(p, k, 9 - p);
        }
        x.undo();
        for (int p = 0; p < 6; p++) {
            Check.due("on(4, 1" + p + "): its ROW, looked at ahead", x.on(4, 10 + p), 4 * 5 + 4 * p + 6);
            for (int k = 0; k < 4; k++) Check.due("row(" + p + ", " + k + ", 0) as in THE IMAGE", x.row(p, k, 0), p + k);
        }
    }

    /** 9998 HOURS of one whose SKILL is 1. */
    private static OneDidAll nearlyAllHours() {
        OneDidAll x = Rooms.eager(0);
        x.will(0, 99);
        x.pass(60);
        x.pass(40);
        Rooms.work(x, 98);
        return x;
    }

    private static void hoursAtMost() {
        Says.terms(1, "HOURS of each are what it DOES more (9999 at most)");
        OneDidAll x = nearlyAllHours();
        x.image();
        int[] hours = {9998, 9999, 9999, 9999};
        for (int more = 0; more < 4; more++) {
            x.undo();
            Check.due("of(0, 4)", x.of(0, 4), 9998);
            Rooms.work(x, more);
            Check.due("of(0, 4) behind " + more + " more", x.of(0, 4), hours[more]);
            Check.due("told(4)", x.told(4), hours[more]);
        }
        Rooms.work(x, 99);
        Check.due("of(0, 4) at its end", x.of(0, 4), 9999);
        x.pupil(0, 0, 1, 0);
        Rooms.work(x, 99, 99);
        Check.due("of(1, 4): held for each alone", x.of(1, 4), 99);
        Check.due("told(4)", x.told(4), 10098);
        OneDidAll y = Rooms.eager(0);
        y.will(0, 99);
        y.pass(60);
        y.pass(60);
        Check.due("of(0, 4) in one go", y.of(0, 4), 9999);
        Check.due("told(1): WORK is by what it DOES", y.told(1), 120 * 99);
    }

    private static void workAtMost() {
        Says.terms(1, "WORK is that times its SKILL more (99999 at most).");
        OneDidAll x = Check.taught("spur 94 p<9;fair 0");
        x.pupil(0, 0, 9, 99);
        x.pupil(0, 0, 9, 99);
        x.pupil(0, 0, 1, 99);
        x.out(2, true);
        Check.due("pass(56)", x.pass(56), 99792);
        x.out(2, false);
        Rooms.work(x, 0, 0, 99);
        Rooms.work(x, 0, 0, 99);
        Rooms.work(x, 0, 0, 8);
        Check.due("told(1)", x.told(1), 99998);
        x.image();
        int[] works = {99998, 99999, 99999, 99999};
        for (int more = 0; more < 4; more++) {
            x.undo();
            Rooms.work(x, 0, 0, more);
            Check.due("told(1) behind " + more + " more", x.told(1), works[more]);
        }
        x.undo();
        Rooms.work(x, 1, 1, 1);
        Check.due("told(1) behind all's more", x.told(1), 99999);
        x.will(0, 99);
        Check.due("pass(60) at its end", x.pass(60), 99999);
        Check.due("pass(0) at its end", x.pass(0), 99999);
    }

    /** What WILL of each is behind a WEEK in which they do as many hours as WILL was. */
    private static void wills(int fair, int[] does, int[] due) {
        OneDidAll x = Check.taught("spur 94 p<9;fair " + fair);
        for (int one : does) x.pupil(0, 0, 1, one);
        x.pass(1);
        for (int p = 0; p < due.length; p++) {
            Check.due("WILL of " + p + " that did " + does[p] + " by FAIR " + fair, x.of(p, 3), due[p]);
        }
    }

    private static int[] all(int... numbers) {
        return numbers;
    }

    private static void averageIsCut() {
        Says.terms(1, "AVERAGE is what all DO, together, by how many are not OUT (cut). Of those who are not OUT, each that DOES more than "
            + "AVERAGE has FAIR less WILL (0 at least), each that DOES less than AVERAGE 1 more (99 at most).");
        wills(3, all(5, 5), all(5, 5));
        wills(3, all(5, 6), all(5, 3));
        wills(3, all(6, 5), all(3, 5));
        wills(3, all(4, 6), all(5, 3));
        wills(3, all(4, 7), all(5, 4));
        wills(3, all(3, 3, 5), all(3, 3, 2));
        wills(3, all(3, 4, 4), all(3, 1, 1));
        wills(3, all(3, 4, 5), all(4, 4, 2));
        wills(3, all(0, 0), all(0, 0));
        wills(3, all(0, 1), all(0, 0));
        wills(3, all(9), all(9));
        wills(3, all(4, 4, 4, 4, 4, 9), all(4, 4, 4, 4, 4, 6));
        wills(3, all(4, 4, 4, 4, 4, 10), all(5, 5, 5, 5, 5, 7));
        wills(0, all(4, 6), all(5, 6));
    }

    private static void fairAtLeast() {
        wills(3, all(0, 4), all(1, 1));
        wills(3, all(0, 3), all(1, 0));
        wills(3, all(0, 2), all(1, 0));
        wills(3, all(0, 1), all(0, 0));
        wills(98, all(0, 99), all(1, 1));
        wills(99, all(0, 99), all(1, 0));
        wills(99, all(0, 98), all(1, 0));
        wills(1, all(0, 99), all(1, 98));
        OneDidAll x = Check.taught("spur 9 p=1;fair 2");
        x.pupil(0, 0, 1, 50);
        x.pupil(0, 0, 1, 50);
        x.pass(1);
        Check.due("WILL that is more than is done, FAIR less", x.of(1, 3), 48);
    }

    private static void willAtMost() {
        int[] wills = {97, 98, 99, 99};
        for (int will = 96; will <= 99; will++) {
            OneDidAll x = Check.taught("shirk 5 p=0");
            x.pupil(0, 0, 1, will);
            x.pupil(0, 0, 1, 99);
            x.pass(1);
            Check.due("WILL, 1 more than " + will, x.of(0, 3), wills[will - 96]);
        }
        wills(2, all(98, 99, 99, 99, 99, 99), all(98, 97, 97, 97, 97, 97));
    }

    private static void outsAndNobody() {
        OneDidAll x = Check.taught("spur 94 p<9;fair 3");
        x.pupil(0, 0, 1, 10);
        x.pupil(0, 0, 1, 4);
        x.pupil(0, 0, 1, 50);
        x.out(2, true);
        x.pass(1);
        // By all three the AVERAGE would be 4.
        Check.due("WILL of the one that did 10", x.of(0, 3), 7);
        Check.due("WILL of the one that did 4", x.of(1, 3), 5);
        Check.due("WILL of the one that is OUT", x.of(2, 3), 50);
        Check.due("HOURS of the one that is OUT", x.of(2, 4), 0);
        x.out(0, true);
        x.out(1, true);
        Check.due("pass(3) when all are OUT", x.pass(3), 14);
        Check.due("WEEK", x.told(0), 4);
        for (int p = 0; p < 3; p++) {
            Check.due("WILL of " + p, x.of(p, 3), p == 0 ? 7 : p == 1 ? 5 : 50);
            Check.due("HOURS of " + p, x.of(p, 4), p == 0 ? 10 : p == 1 ? 4 : 0);
        }
        OneDidAll nobody = new OneDidAll();
        Check.due("pass(60) without PUPILS", nobody.pass(60), 0);
        Check.due("WEEK is 1 more for each", nobody.told(0), 60);
    }

    private static void aheadOfIt() {
        Says.terms(1, "A WEEK goes, by how all is ahead of it");
        OneDidAll x = Check.taught("spur 5 h=0;spur 7 w=1");
        x.pupil(0, 0, 1, 99);
        x.pupil(5, 0, 1, 99);
        x.pass(1);
        Check.due("HOURS: h was 0", x.of(0, 4), 10);
        Check.due("HOURS of the other: h was 0", x.of(1, 4), 5);
        x.pass(1);
        Check.due("HOURS: h is 1, w is 1", x.of(0, 4), 22);
        Check.due("HOURS of the other: h is 0, w is 1", x.of(1, 4), 13);
        OneDidAll y = Check.taught("spur 94 p<9;fair 9");
        y.pupil(0, 0, 1, 10);
        y.pupil(0, 0, 1, 0);
        y.pass(1);
        Check.due("WILL of the later one, by what was done ahead", y.of(1, 3), 1);
        y.pass(1);
        Check.due("HOURS by WILL ahead of the second WEEK", y.of(0, 4), 11);
        Check.due("HOURS by WILL ahead of the second WEEK", y.of(1, 4), 1);
    }

    /** HOURS of PUPILS of these kinds and v's, so many as told, in WEEKS of 49 at most; WEEK is no multiple of 4 less 1. */
    private static OneDidAll worked(String text, int[] kinds, int[] vs, int[] hours) {
        OneDidAll x = Check.taught(text + "spur 94 p<9;fair 0");
        for (int p = 0; p < kinds.length; p++) x.pupil(kinds[p], vs[p], 1, 0);
        for (int done = 0; done < 300; done += 49) {
            for (int p = 0; p < hours.length; p++) x.will(p, Math.max(0, Math.min(49, hours[p] - done)));
            x.pass(1);
        }
        for (int p = 0; p < hours.length; p++) Check.due("HOURS of " + p, x.of(p, 4), hours[p]);
        return x;
    }

    private static OneDidAll worked(int... hours) {
        return worked("", new int[hours.length], new int[hours.length], hours);
    }

    private static void shares() {
        Says.terms(1, "SHARE of one: 100 times its HOURS by HOURS of all, together (cut; 0 if these are 0).");
        int[][] hours = {{0, 0}, {0, 1}, {1, 2}, {2, 1}, {1, 99}, {1, 100}, {2, 199}, {1, 1, 1}, {1, 1, 1, 1, 1, 1}, {50}, {3, 0, 0, 5}};
        int[][] due = {{0, 0}, {0, 100}, {33, 66}, {66, 33}, {1, 99}, {0, 99}, {0, 99}, {33, 33, 33}, {16, 16, 16, 16, 16, 16}, {100},
            {37, 0, 0, 62}};
        for (int i = 0; i < hours.length; i++) {
            OneDidAll x = worked(hours[i]);
            for (int p = 0; p < hours[i].length; p++) Check.due("SHARE of " + p + " in room " + i, x.of(p, 8), due[i][p]);
            x.out(0, true);
            Check.due("SHARE of one who is OUT", x.of(0, 8), due[i][0]);
        }
        OneDidAll all = nearlyAllHours();
        Rooms.work(all, 1);
        Check.due("SHARE of 9999 HOURS", all.of(0, 8), 100);
    }

    /** CLAIM of one whose SHARE is so much. */
    private static void claim(int kind, int v, int share, int due) {
        OneDidAll x = worked("", new int[] {kind, 0}, new int[] {v, 0}, new int[] {share, 100 - share});
        Check.due("SHARE", x.of(0, 8), share);
        Check.due("CLAIM of kind " + kind + ", v " + v + ", by SHARE " + share, x.of(0, 9), due);
        Check.due("CLAIMS of all", x.told(5), due + 100 - share);
        Check.due("CLAIM of the other", x.of(1, 9), 100 - share);
    }

    private static void claimsOfKinds() {
        Says.terms(1, "CLAIM of one (0 .. 100 in the end): PUPIL: SHARE. KEEN, LEADER: SHARE less v. IDLE: SHARE and v. BOASTER: twice SHARE. "
            + "SHY: the half (cut) of what it is as IDLE (that being held to 0 .. 100 ahead).");
        for (int share : new int[] {0, 1, 99, 100}) claim(0, 9, share, share);
        for (int kind : new int[] {1, 4}) {
            claim(kind, 9, 0, 0);
            claim(kind, 9, 8, 0);
            claim(kind, 9, 9, 0);
            claim(kind, 9, 10, 1);
            claim(kind, 9, 100, 91);
            claim(kind, 0, 100, 100);
        }
        claim(2, 9, 0, 9);
        claim(2, 9, 90, 99);
        claim(2, 9, 91, 100);
        claim(2, 9, 92, 100);
        claim(2, 9, 100, 100);
        claim(2, 0, 100, 100);
        claim(3, 9, 0, 0);
        claim(3, 9, 49, 98);
        claim(3, 9, 50, 100);
        claim(3, 9, 51, 100);
        claim(3, 9, 100, 100);
        claim(5, 9, 0, 4);
        claim(5, 9, 1, 5);
        claim(5, 0, 0, 0);
        claim(5, 0, 1, 0);
        claim(5, 9, 90, 49);
        claim(5, 9, 91, 50);
        claim(5, 9, 93, 50);
        claim(5, 9, 100, 50);
    }

    private static void claimsOfTold() {
        Says.terms(1, "TOLD: as BOASTER, and its ROW at WEEK modulo 4 more. BASE");
        int[][] due = {{0, 0, 0}, {0, 9, 9}, {45, 9, 99}, {48, 4, 100}, {48, 5, 100}, {49, 1, 99}, {50, 0, 100}, {50, 9, 100}, {100, 9, 100}};
        for (int[] one : due) {
            OneDidAll x = worked("", new int[] {6, 0}, new int[] {9, 0}, new int[] {one[0], 100 - one[0]});
            Check.due("WEEK", x.told(0), 7);
            x.row(0, 3, one[1]);
            Check.due("CLAIM by SHARE " + one[0] + ", ROW " + one[1], x.of(0, 9), one[2]);
        }
        OneDidAll x = worked("", new int[] {6, 0}, new int[] {9, 0}, new int[] {10, 90});
        x.out(0, true);
        x.out(1, true);
        int[] row = {1, 2, 3, 4};
        for (int k = 0; k < 4; k++) x.row(0, k, row[k]);
        for (int week = 7; week < 13; week++) {
            Check.due("CLAIM in WEEK " + week, x.of(0, 9), 20 + row[week % 4]);
            x.pass(1);
        }
    }

    private static void base() {
        Says.terms(1, "BASE: 100 times WORK by GOAL (cut; 100 at most).");
        int[][] due = {
            {60, 0, 0}, {60, 59, 98}, {60, 60, 100}, {60, 61, 100}, {3, 1, 33}, {3, 2, 66}, {3, 3, 100}, {99, 98, 98}, {99, 99, 100},
            {99, 1, 1}, {1, 0, 0}, {1, 1, 100}, {0, 0, 0}, {0, 1, 100}, {7, 6, 85}, {60, 250, 100},
        };
        for (int[] one : due) {
            OneDidAll x = worked("goal " + one[0] + ";", new int[1], new int[1], new int[] {one[1]});
            Check.due("told(6) by GOAL " + one[0] + ", WORK " + one[1], x.told(6), one[2]);
            Check.due("mark(0, 0)", x.mark(0, 0), one[2]);
        }
        OneDidAll x = Check.taught("spur 94 p<9;goal 0");
        x.pupil(0, 0, 9, 99);
        x.pass(60);
        x.pass(60);
        Check.due("WORK", x.told(1), 99999);
        Check.due("told(6) by all WORK", x.told(6), 100);
    }

    private static void marks() {
        Says.terms(1, "MARK of one by a RULE: 0, if it is OUT; else by RULE 0 BASE");
        OneDidAll x = worked(30, 20);
        for (int rule = 0; rule < 4; rule++) {
            Check.due("mark(0, " + rule + ") is not 0", x.mark(0, rule) > 0 ? 1 : 0, 1);
            x.out(0, true);
            Check.due("mark(0, " + rule + ") when it is OUT", x.mark(0, rule), 0);
            x.out(1, true);
            Check.due("mark(0, " + rule + ") when all are OUT", x.mark(0, rule), 0);
            x.out(0, false);
            x.out(1, false);
        }
        Check.due("mark(0, 0)", x.mark(0, 0), 83);
        Check.due("mark(1, 0)", x.mark(1, 0), 83);
    }

    private static void dueMarks(OneDidAll x, int rule, int... due) {
        for (int p = 0; p < due.length; p++) Check.due("mark(" + p + ", " + rule + ")", x.mark(p, rule), due[p]);
    }

    private static void marksByHours() {
        Says.terms(1, "by RULE 1 BASE times its HOURS times how many are not OUT, by HOURS of all who are not OUT (cut; 100 at most; BASE, if these are 0)");
        dueMarks(worked(99, 101), 1, 99, 100);
        dueMarks(worked(100, 100), 1, 100, 100);
        dueMarks(worked(101, 99), 1, 100, 99);
        dueMarks(worked(1, 199), 1, 1, 100);
        dueMarks(worked(1, 200), 1, 0, 100);
        dueMarks(worked(0, 70), 1, 0, 100);
        dueMarks(worked(0, 0), 1, 0, 0);
        // WORK 3, 5 by GOAL 60: BASE 5, 8.
        dueMarks(worked(1, 2), 1, 3, 6);
        dueMarks(worked(1, 4), 1, 3, 12);
        dueMarks(worked(1, 1, 1), 1, 5, 5, 5);
        OneDidAll x = worked(30, 0, 0);
        dueMarks(x, 1, 100, 0, 0);
        x.out(0, true);
        dueMarks(x, 1, 0, 50, 50);
        Rooms.work(x, 0, 1, 0);
        dueMarks(x, 1, 0, 100, 0);
        OneDidAll y = worked(10, 20, 30);
        y.out(2, true);
        dueMarks(y, 1, 66, 100, 0);
    }

    private static void marksByClaims() {
        Says.terms(1, "by RULE 2 the same with CLAIMS in place of HOURS");
        // SHARES 5, 5, 90.
        OneDidAll x = worked("", new int[] {1, 1, 0}, new int[] {5, 5, 0}, new int[] {2, 2, 36});
        Check.due("CLAIMS of all", x.told(5), 90);
        dueMarks(x, 2, 0, 0, 100);
        x.out(2, true);
        dueMarks(x, 2, 66, 66, 0);
        OneDidAll y = worked("", new int[] {1, 1, 0}, new int[] {4, 5, 0}, new int[] {2, 2, 36});
        y.out(2, true);
        dueMarks(y, 2, 100, 0, 0);
        OneDidAll z = worked("", new int[] {3, 0}, new int[] {0, 0}, new int[] {50, 50});
        Check.due("CLAIMS of all", z.told(5), 150);
        dueMarks(z, 2, 100, 66);
        OneDidAll u = new OneDidAll();
        u.pupil(2, 9, 1, 0);
        u.pupil(0, 0, 1, 99);
        dueMarks(u, 2, 0, 0);
        u.pass(1);
        // BASE 8; SHARES 0, 100; CLAIMS 9, 100.
        dueMarks(u, 2, 1, 14);
    }

    private static void marksByLeastSkill() {
        Says.terms(1, "by RULE 3 BASE times the least SKILL of those who are not OUT, by 9 (cut).");
        int[] due = {11, 22, 33, 44, 55, 66, 77, 88, 100};
        for (int skill = 1; skill <= 9; skill++) {
            OneDidAll x = Check.taught("goal 5");
            x.pupil(0, 0, 9, 99);
            x.pupil(0, 0, skill, 99);
            x.pupil(0, 0, Math.max(1, skill - 1), 99);
            x.out(2, true);
            x.pass(1);
            dueMarks(x, 3, due[skill - 1], due[skill - 1], 0);
            x.out(1, true);
            dueMarks(x, 3, 100, 0, 0);
        }
        OneDidAll y = Check.taught("goal 99");
        y.pupil(0, 0, 5, 10);
        y.pass(2);
        // BASE 50.
        dueMarks(y, 3, 27);
    }
}
