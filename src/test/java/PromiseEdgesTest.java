/** The edges that stand in the promises themselves, 1 to 35, one by one. */
public final class PromiseEdgesTest {
    private static final int NONE = -1, BAD = -2, STATE = -3, FULL = -4, NOTHING = -5;
    private static final long NO = Long.MIN_VALUE;
    private static final int LEAST = Integer.MIN_VALUE, MOST = Integer.MAX_VALUE;

    public static void main(String[] args) {
        aNewObject();
        feed();
        school();
        schoolByFault();
        schoolWhenFull();
        pupil();
        of();
        row();
        willAndOut();
        told();
        mark();
        pass();
        passToTheLastWeek();
        on();
        readySpreadNearest();
        groups();
        parts();
        see();
        skilledAndFirm();
        oddsAndMean();
        planAndDone();
        bookAndLooked();
        act();
        trace();
        as();
        image();
        undo();
        count();
        Check.due("promises named", Says.promisesNamed(), 35);
        Check.end();
    }

    private static void aNewObject() {
        Says.promise(1, "No PUPILS, no CLASS.");
        OneDidAll x = new OneDidAll();
        for (int what = 0; what <= 6; what++) Check.due("count(" + what + ")", x.count(what), 0);
        int[] told = {0, 0, 60, 2, 0, 0, 0};
        for (int what = 0; what <= 6; what++) Check.due("told(" + what + ")", x.told(what), told[what]);
        Check.due("of(0, 0)", x.of(0, 0), NONE);
        Check.due("ready()", x.ready(), NOTHING);
        Check.due("spread(0)", x.spread(0), 0);
        Check.due("nearest()", x.nearest(), 0);
        Check.due("throwOut()", x.throwOut(), NOTHING);
        Check.due("alone(0)", x.alone(0), NONE);
        Check.due("team(1, 0)", x.team(1, 0), NOTHING);
        Check.due("split(0)", x.split(0), NOTHING);
        Check.due("part(0, 0)", x.part(0, 0), NO);
        Check.due("skilled(0, 0)", x.skilled(0, 0), NONE);
        Check.due("firm(0, 0)", x.firm(0, 0), NONE);
        Check.due("odds(0, 0, 0)", x.odds(0, 0, 0), NO);
        Check.due("mean(0, 0)", x.mean(0, 0), NO);
        Check.due("done(0)", x.done(0), 0);
        Check.due("looked()", x.looked(), NOTHING);
        Check.due("act(0, 0, 1)", x.act(0, 0, 1), 0);
        Check.due("trace(0)", x.trace(0), NONE);
        Check.due("as(0, 0)", x.as(0, 0), NONE);
        Check.due("undo()", x.undo(), STATE);
        OneDidAll full = Rooms.full();
        Check.due("another one's PUPILS", full.count(0), 6);
        Check.due("another one's being full", new OneDidAll().count(0), 0);
    }

    private static void feed() {
        Says.promise(2, "A sign (0 .. 127) comes behind THE TAPE's: how many it has. BAD; FULL.");
        OneDidAll x = new OneDidAll();
        Check.due("feed(-1)", x.feed(-1), BAD);
        Check.due("feed(128)", x.feed(128), BAD);
        int[] signs = {0, 1, 126, 127};
        for (int i = 0; i < 4; i++) Check.due("feed(" + signs[i] + ")", x.feed(signs[i]), i + 1);
        for (int n = 5; n <= 100; n++) Check.due("feed to " + n, x.feed(n), n);
        for (int round = 0; round < 2; round++) {
            Check.due("feed(0), the 101st", x.feed(0), FULL);
            Check.due("feed(-1), the 101st", x.feed(-1), BAD);
            Check.due("feed(128), the 101st", x.feed(128), BAD);
        }
        Check.due("count(5)", x.count(5), 100);
        // A byte of a sign and 128 more is none of it.
        for (int sign : new int[] {'g' + 128, 'g' + 256, 'g' - 128, 'g' - 256}) {
            Check.due("feed(" + sign + ")", new OneDidAll().feed(sign), BAD);
        }
        OneDidAll y = new OneDidAll();
        Check.feedAll(y, "goal 1");
        y.feed(-1);
        y.feed(128);
        Check.due("feed('2') behind refused ones", y.feed('2'), 7);
        Check.due("school()", y.school(), 0);
        Check.due("told(2)", y.told(2), 12);
    }

    private static void school() {
        Says.promise(3, "THE TAPE, which is empty then (by a FAULT, too), is a CLASS, and holds: its number");
        OneDidAll x = new OneDidAll();
        for (int n = 0; n < 5; n++) {
            Check.due("school() number " + n, Check.teach(x, "goal 1" + n), n);
            Check.due("count(5)", x.count(5), 0);
            Check.due("count(1)", x.count(1), n + 1);
            Check.due("told(2)", x.told(2), 10 + n);
        }
        OneDidAll y = new OneDidAll();
        Check.feedAll(y, "goal ");
        Check.due("school() of a part", y.school(), -15);
        Check.due("school() of the other part alone", Check.teach(y, "7"), -10);
        Check.due("school() of an empty tape", y.school(), -10);
        Check.due("school() of both parts", Check.teach(y, "goal 7"), 0);
        Check.due("school() of an empty tape", y.school(), -10);
        Check.due("count(1)", y.count(1), 1);
    }

    private static void schoolByFault() {
        Says.promise(3, "-10 less the FAULT (the one that held holds).");
        OneDidAll x = Check.taught("goal 7;fair 5;spur 3 p=0");
        x.pupil(0, 0, 1, 0);
        String[] texts = {"", "x", "goal 9;", "fair 1;spur 9 p=0&", "goal 9;fair 9;shirk 3 p=0)"};
        int[] due = {-10, -10, -17, -28, -34};
        due[4] = -10 - texts[4].indexOf(')');
        for (int i = 0; i < texts.length; i++) {
            Check.due("school() of " + texts[i], Check.teach(x, texts[i]), due[i]);
            Check.due("count(5)", x.count(5), 0);
            Check.due("count(1)", x.count(1), 1);
            Check.due("told(2)", x.told(2), 7);
            Check.due("told(3)", x.told(3), 5);
            Check.due("of(0, 6)", x.of(0, 6), 8);
        }
        Check.due("school() of a hundred", Check.teach(x, "goal 10;spur 10 (" + "p=1|".repeat(20) + "p=1"), -110);
        Check.due("school() behind it", Check.teach(x, "goal 8"), 1);
        Check.due("of(0, 6) by it", x.of(0, 6), 5);
    }

    private static void schoolWhenFull() {
        Says.promise(3, "FULL (ahead of all; THE TAPE stays).");
        String[] tapes = {"", "goal 3", "x", "goal 3;"};
        for (String tape : tapes) {
            OneDidAll x = Check.taught("goal 11");
            x.image();
            for (int n = 1; n < 5; n++) Check.teach(x, "goal 1" + (n + 1));
            Check.feedAll(x, tape);
            for (int round = 0; round < 2; round++) {
                Check.due("school(), the 6th", x.school(), FULL);
                Check.due("count(5)", x.count(5), tape.length());
                Check.due("count(1)", x.count(1), 5);
                Check.due("told(2)", x.told(2), 15);
            }
            Check.due("undo()", x.undo(), 0);
            Check.due("count(1): there is room again", x.count(1), 1);
            Check.due("told(2)", x.told(2), 11);
            Check.due("school()", Check.teach(x, "goal 22"), 1);
        }
    }

    private static void pupil() {
        Says.promise(4, "One of PUPILS: its number. NONE: kind; BAD: v, skill, will; FULL: 6.");
        OneDidAll x = new OneDidAll();
        int[][] wrong = {{LEAST, 0, 1, 0, NONE}, {-1, 0, 1, 0, NONE}, {7, 0, 1, 0, NONE}, {MOST, 0, 1, 0, NONE}, {7, -1, 0, 100, NONE},
            {0, -1, 1, 0, BAD}, {0, 10, 1, 0, BAD}, {0, 0, 0, 0, BAD}, {0, 0, 10, 0, BAD}, {0, 0, 1, -1, BAD}, {0, 0, 1, 100, BAD},
            {6, LEAST, 1, 0, BAD}, {6, 0, LEAST, 0, BAD}, {6, 0, 1, LEAST, BAD}, {6, MOST, 1, 0, BAD}, {6, 0, MOST, 0, BAD}, {6, 0, 1, MOST, BAD}};
        for (int size = 0; size <= 6; size++) {
            for (int[] one : wrong) {
                Check.due("pupil(" + one[0] + ", " + one[1] + ", " + one[2] + ", " + one[3] + ")", x.pupil(one[0], one[1], one[2], one[3]), one[4]);
            }
            Check.due("count(0)", x.count(0), size);
            Check.due("pupil number " + size, x.pupil(6 - size, 9, 9, 99), size < 6 ? size : FULL);
        }
    }

    private static void of() {
        Says.promise(5, "Of a PUPIL what 0 KIND, 1 v, 2 SKILL, 3 WILL, 4 HOURS, 5 whether it is OUT, 6 ZEAL, 7 DOES, 8 SHARE, 9 CLAIM. NONE.");
        OneDidAll x = Check.taught("spur 3 p=1");
        x.pupil(6, 9, 1, 0);
        x.pupil(2, 4, 9, 99);
        x.row(0, 2, 6);
        x.pass(2);
        x.out(0, true);
        int[] first = {6, 9, 1, 2, 1, 1, 5, 0, 11, 28};
        int[] second = {2, 4, 9, 95, 8, 0, 8, 4, 88, 92};
        for (int what = 0; what < 10; what++) {
            Check.due("of(0, " + what + ")", x.of(0, what), first[what]);
            Check.due("of(1, " + what + ")", x.of(1, what), second[what]);
            for (int p : new int[] {-1, 2, 6, LEAST, MOST}) Check.due("of(" + p + ", " + what + ")", x.of(p, what), NONE);
        }
        for (int what : new int[] {-1, 10, 11, LEAST, MOST}) Check.due("of(0, " + what + ")", x.of(0, what), NONE);
    }

    private static void row() {
        Says.promise(6, "The ROW of a TOLD one becomes n (0 .. 9) for WEEKS modulo 4 being k: what it was. NONE: pupil, k; BAD; STATE: another KIND.");
        OneDidAll x = new OneDidAll();
        for (int kind = 6; kind > 0; kind--) x.pupil(kind, 0, 1, 50);
        for (int k = 0; k < 4; k++) {
            int was = 0;
            for (int n = 0; n <= 9; n++) {
                Check.due("row(0, " + k + ", " + n + ")", x.row(0, k, n), was);
                was = n;
                if (k == 0) Check.due("of(0, 7)", x.of(0, 7), 5 + n);
            }
            Check.due("row(0, " + k + ", -1)", x.row(0, k, -1), BAD);
            Check.due("row(0, " + k + ", 10)", x.row(0, k, 10), BAD);
            for (int p = 1; p < 6; p++) {
                Check.due("row(" + p + ", " + k + ", 9)", x.row(p, k, 9), STATE);
                Check.due("row(" + p + ", " + k + ", 10)", x.row(p, k, 10), BAD);
            }
            Check.due("row(6, " + k + ", 10)", x.row(6, k, 10), NONE);
            Check.due("row(-1, " + k + ", 9)", x.row(-1, k, 9), NONE);
        }
        for (int k : new int[] {-1, 4, LEAST, MOST}) {
            Check.due("row(0, " + k + ", 9)", x.row(0, k, 9), NONE);
            Check.due("row(0, " + k + ", 10)", x.row(0, k, 10), NONE);
            Check.due("row(1, " + k + ", 9)", x.row(1, k, 9), NONE);
        }
        Check.due("of(0, 7)", x.of(0, 7), 14);
    }

    private static void willAndOut() {
        Says.promise(7, "WILL of one becomes n (0 .. 99): what it was. NONE; BAD.");
        OneDidAll x = new OneDidAll();
        x.pupil(0, 0, 1, 50);
        int[] wills = {0, 1, 98, 99, 99, 0};
        int was = 50;
        for (int n : wills) {
            Check.due("will(0, " + n + ")", x.will(0, n), was);
            was = n;
            for (int wrong : new int[] {-1, 100, LEAST, MOST}) {
                Check.due("will(0, " + wrong + ")", x.will(0, wrong), BAD);
                Check.due("will(1, " + wrong + ")", x.will(1, wrong), NONE);
            }
            Check.due("of(0, 3)", x.of(0, 3), n);
        }
        Check.due("will(1, 0)", x.will(1, 0), NONE);
        Check.due("will(-1, 0)", x.will(-1, 0), NONE);
        Says.promise(8, "One is OUT, or not: whether it was. NONE.");
        boolean[] outs = {false, true, true, false, false, true};
        int wasOut = 0;
        for (boolean is : outs) {
            Check.due("out(0, " + is + ")", x.out(0, is), wasOut);
            wasOut = is ? 1 : 0;
            Check.due("of(0, 5)", x.of(0, 5), wasOut);
            Check.due("out(1, " + !is + ")", x.out(1, !is), NONE);
            Check.due("out(-1, " + !is + ")", x.out(-1, !is), NONE);
        }
    }

    private static void told() {
        Says.promise(9, "What 0 WEEK, 1 WORK, 2 GOAL, 3 FAIR, 4 HOURS of all, together, 5 CLAIMS of all, together, 6 BASE. NONE.");
        OneDidAll x = Check.taught("goal 99;fair 0");
        for (int kind : new int[] {2, 2, 2, 2, 2, 2}) x.pupil(kind, 9, 1, 99);
        Check.due("told(5): six times 9", x.told(5), 54);
        x.pass(7);
        int[] due = {7, 84, 99, 0, 84, 6 * (16 + 9), 84};
        for (int what = 0; what < 7; what++) Check.due("told(" + what + ")", x.told(what), due[what]);
        for (int p = 0; p < 6; p++) x.out(p, true);
        for (int what = 0; what < 7; what++) Check.due("told(" + what + ") when all are OUT", x.told(what), due[what]);
        for (int what : new int[] {-1, 7, 8, LEAST, MOST}) Check.due("told(" + what + ")", x.told(what), NONE);
    }

    private static void mark() {
        Says.promise(10, "MARK by a RULE (0 .. 3). NONE.");
        OneDidAll x = Rooms.plain(4);
        x.pass(2);
        int[] due = {66, 66, 66, 29};
        for (int rule = 0; rule < 4; rule++) {
            Check.due("mark(0, " + rule + ")", x.mark(0, rule), due[rule]);
            for (int p : new int[] {-1, 1, LEAST, MOST}) Check.due("mark(" + p + ", " + rule + ")", x.mark(p, rule), NONE);
        }
        for (int rule : new int[] {-1, 4, LEAST, MOST}) Check.due("mark(0, " + rule + ")", x.mark(0, rule), NONE);
        x.out(0, true);
        Check.due("mark(0, 4) of one who is OUT", x.mark(0, 4), NONE);
    }

    private static void pass() {
        Says.promise(11, "n WEEKS (0 .. 60) go: WORK. BAD; STATE: WEEK would be above 9999.");
        OneDidAll x = Rooms.plain(1);
        Check.due("pass(-1)", x.pass(-1), BAD);
        Check.due("pass(61)", x.pass(61), BAD);
        Check.due("pass(0)", x.pass(0), 0);
        Check.due("told(0)", x.told(0), 0);
        Check.due("pass(1)", x.pass(1), 5);
        Check.due("pass(59)", x.pass(59), 300);
        Check.due("pass(60)", x.pass(60), 600);
        Check.due("pass(0)", x.pass(0), 600);
        Check.due("told(0)", x.told(0), 120);
        Check.due("pass(least)", x.pass(LEAST), BAD);
        Check.due("pass(greatest)", x.pass(MOST), BAD);
        Check.due("told(0)", x.told(0), 120);
        OneDidAll one = Rooms.some();
        OneDidAll other = Rooms.some();
        one.pass(60);
        for (int n = 0; n < 60; n++) other.pass(1);
        Twin.same("60 WEEKS at once", one, other);
    }

    private static void passToTheLastWeek() {
        for (int left : new int[] {0, 1, 2, 59, 60, 61}) {
            OneDidAll x = Rooms.late(left);
            Check.due("told(0)", x.told(0), 9999 - left);
            if (left < 60) {
                Check.due("pass(" + (left + 1) + ") of " + left + " left", x.pass(left + 1), STATE);
                Check.due("pass(60) of " + left + " left", x.pass(60), STATE);
            }
            Check.due("pass(61) of " + left + " left", x.pass(61), BAD);
            Check.due("pass(-1) of " + left + " left", x.pass(-1), BAD);
            Check.due("told(0)", x.told(0), 9999 - left);
            int first = Math.min(60, left);
            Check.due("pass(" + first + ")", x.pass(first), 99999);
            Check.due("told(0)", x.told(0), 9999 - left + first);
            Check.due("pass of the rest", x.pass(left - first), 99999);
            Check.due("told(0)", x.told(0), 9999);
            Check.due("pass(0) in WEEK 9999", x.pass(0), 99999);
            Check.due("pass(1) in WEEK 9999", x.pass(1), STATE);
            Check.due("told(0)", x.told(0), 9999);
        }
    }

    private static void on() {
        Says.promise(12, "ON: what 0 WORK more, 1 HOURS of all more, 10 and p HOURS more, 20 and p WILL of PUPIL p. NONE; BAD: n.");
        for (int size = 0; size <= 6; size++) {
            OneDidAll x = new OneDidAll();
            for (int p = 0; p < size; p++) x.pupil(0, 0, 2, 90 + p);
            for (int what = -2; what < 40; what++) {
                boolean isHours = what >= 10 && what < 10 + size;
                boolean isWill = what >= 20 && what < 20 + size;
                int due = what == 0 ? 20 * size : what == 1 ? 10 * size : isHours ? 10 : isWill ? 70 + what : NONE;
                Check.due("on(2, " + what + ") of " + size, x.on(2, what), due);
                int bad = what == 0 || what == 1 || isHours || isWill ? BAD : NONE;
                Check.due("on(61, " + what + ") of " + size, x.on(61, what), bad);
                Check.due("on(-1, " + what + ") of " + size, x.on(-1, what), bad);
            }
            for (int what : new int[] {LEAST, LEAST + 10, LEAST + 20, MOST}) Check.due("on(1, " + what + ")", x.on(1, what), NONE);
        }
    }

    private static void readySpreadNearest() {
        Says.promise(13, "READY; -5.");
        OneDidAll x = Check.taught("goal 50;fair 0");
        Check.due("ready()", x.ready(), NOTHING);
        x.pupil(0, 0, 1, 1);
        Check.due("ready()", x.ready(), 50);
        x.will(0, 0);
        Check.due("ready()", x.ready(), NOTHING);
        x.will(0, 99);
        Check.due("ready()", x.ready(), 10);
        x.pass(10);
        Check.due("ready()", x.ready(), 0);
        Says.promise(14, "SPREAD. NONE.");
        for (int rule = -2; rule <= 5; rule++) Check.due("spread(" + rule + ")", x.spread(rule), rule < 0 || rule > 3 ? NONE : 0);
        Check.due("spread(least)", x.spread(LEAST), NONE);
        Check.due("spread(greatest)", x.spread(MOST), NONE);
        Says.promise(15, "NEAREST.");
        Check.due("nearest()", x.nearest(), 0);
    }

    private static void groups() {
        Says.promise(16, "THROW; -5.");
        OneDidAll x = new OneDidAll();
        Check.due("throwOut()", x.throwOut(), NOTHING);
        x.pupil(4, 0, 9, 99);
        x.pupil(0, 0, 1, 99);
        Check.due("throwOut()", x.throwOut(), 1);
        x.out(1, true);
        Check.due("throwOut()", x.throwOut(), NOTHING);
        Says.promise(17, "ALONE. NONE.");
        Check.due("alone(0)", x.alone(0), 20 * 6 * 9);
        Check.due("alone(1)", x.alone(1), 100);
        for (int p : new int[] {-1, 2, 6, LEAST, MOST}) Check.due("alone(" + p + ")", x.alone(p), NONE);
        Says.promise(18, "TEAM: what 0 which (bits), 1 how much; -5. NONE: what; BAD: k.");
        for (int k = -1; k <= 8; k++) {
            int due = k < 1 || k > 6 ? BAD : k > 2 ? NOTHING : 0;
            Check.due("team(" + k + ", 0)", x.team(k, 0), due == 0 ? 2 * k - 1 : due);
            Check.due("team(" + k + ", 1)", x.team(k, 1), due == 0 ? k == 1 ? 540 : 500 : due);
            for (int what : new int[] {-1, 2, LEAST, MOST}) Check.due("team(" + k + ", " + what + ")", x.team(k, what), NONE);
        }
        Check.due("team(least, 0)", x.team(LEAST, 0), BAD);
        Check.due("team(greatest, 0)", x.team(MOST, 0), BAD);
        Says.promise(19, "SPLIT: what 0 the first set (bits), 1 how far; -5. NONE.");
        Check.due("split(0)", x.split(0), 1);
        Check.due("split(1)", x.split(1), 490);
        for (int what : new int[] {-1, 2, LEAST, MOST}) {
            Check.due("split(" + what + ")", x.split(what), NONE);
            Check.due("split(" + what + ") of one", Rooms.plain(1).split(what), NONE);
        }
        for (int what = 0; what < 2; what++) Check.due("split(" + what + ") of one", Rooms.plain(1).split(what), NOTHING);
    }

    private static void parts() {
        Says.promise(20, "PART. NO: pupil, part.");
        OneDidAll x = Rooms.plain(1, 2);
        for (int p = -1; p <= 6; p++) {
            boolean is = p == 0 || p == 1;
            Check.due("part(" + p + ", 0)", x.part(p, 0), is ? 25 * (p + 1) : NO);
            Check.due("part(" + p + ", 1)", x.part(p, 1), is ? 1 : NO);
            for (int part : new int[] {-1, 2, LEAST, MOST}) Check.due("part(" + p + ", " + part + ")", x.part(p, part), NO);
        }
        for (int p : new int[] {LEAST, MOST}) Check.due("part(" + p + ", 0)", x.part(p, 0), NO);
    }

    private static void see() {
        Says.promise(21, "What is SEEN comes: how many there are (work -1: none then, 0, whatever the other is). BAD: work, n; FULL: 5.");
        for (int n : new int[] {-1, 0, 20, 21, LEAST, MOST}) {
            OneDidAll x = new OneDidAll();
            Check.due("see(-1, " + n + ") of none", x.see(-1, n), 0);
            for (int i = 1; i <= 5; i++) Check.due("see to " + i, x.see(99999 * (i % 2), 5 * (i - 1)), i);
            int[][] wrong = {{0, 0, FULL}, {99999, 20, FULL}, {100000, 0, BAD}, {0, -1, BAD}, {0, 21, BAD}, {-2, 21, BAD}, {LEAST, 0, BAD}, {MOST, 0, BAD}};
            for (int[] one : wrong) Check.due("see(" + one[0] + ", " + one[1] + ") when full", x.see(one[0], one[1]), one[2]);
            Check.due("count(2)", x.count(2), 5);
            Check.due("see(-1, " + n + ")", x.see(-1, n), 0);
            Check.due("count(2)", x.count(2), 0);
            Check.due("see(0, 0)", x.see(0, 0), 1);
        }
    }

    private static void skilledAndFirm() {
        OneDidAll x = Rooms.plain(3);
        for (int[] one : new int[][] {{0, 9, 10, 1, 0}, {15, 1, 10, 3, 0}, {16, 0, 0, NOTHING, NOTHING}}) {
            Check.due("see(" + one[0] + ", 1)", x.see(one[0], one[0] == 0 ? 0 : 1), x.count(2));
            Says.promise(22, "SKILLED: what 0 how many, 1 the least; -5. NONE.");
            Check.due("skilled(0, 0)", x.skilled(0, 0), one[1]);
            Check.due("skilled(0, 1)", x.skilled(0, 1), one[3]);
            Says.promise(23, "FIRM: what 0 how many, 1 the least; -5. NONE.");
            Check.due("firm(0, 0)", x.firm(0, 0), one[2]);
            Check.due("firm(0, 1)", x.firm(0, 1), one[4]);
            for (int wrong : new int[] {-1, 2, LEAST, MOST}) {
                Check.due("skilled(0, " + wrong + ")", x.skilled(0, wrong), NONE);
                Check.due("firm(0, " + wrong + ")", x.firm(0, wrong), NONE);
                Check.due("skilled(" + wrong + ", 0)", x.skilled(wrong, 0), NONE);
                Check.due("firm(" + wrong + ", 1)", x.firm(wrong, 1), NONE);
            }
            Check.due("skilled(1, 0)", x.skilled(1, 0), NONE);
            Check.due("firm(1, 0)", x.firm(1, 0), NONE);
        }
    }

    private static void oddsAndMean() {
        Says.promise(24, "ODDS. NO: n, m, part, no PUPILS.");
        int[][] odds = {{-1, 0, 0}, {61, 0, 0}, {LEAST, 0, 1}, {MOST, 0, 1}, {0, -1, 0}, {0, 100000, 0}, {0, LEAST, 1}, {0, MOST, 1},
            {0, 0, -1}, {0, 0, 2}, {0, 0, LEAST}, {0, 0, MOST}};
        OneDidAll x = Rooms.plain(1, 1);
        for (int[] one : odds) {
            Check.due("odds(" + one[0] + ", " + one[1] + ", " + one[2] + ")", x.odds(one[0], one[1], one[2]), NO);
        }
        int[][] due = {{0, 0, 1, 1}, {60, 0, 1, 1}, {60, 300, 1, 1}, {60, 301, 0, 1}, {60, 99999, 0, 1}, {0, 99999, 0, 1}};
        for (int[] one : due) {
            for (int part = 0; part < 2; part++) {
                Check.due("odds(" + one[0] + ", " + one[1] + ", " + part + ")", x.odds(one[0], one[1], part), one[2 + part]);
                Check.due("odds without PUPILS", new OneDidAll().odds(one[0], one[1], part), NO);
            }
        }
        Says.promise(25, "MEAN. NO: n, part, no PUPILS.");
        for (int n : new int[] {-1, 61, LEAST, MOST}) Check.due("mean(" + n + ", 0)", x.mean(n, 0), NO);
        for (int part : new int[] {-1, 2, LEAST, MOST}) Check.due("mean(1, " + part + ")", x.mean(1, part), NO);
        for (int n : new int[] {0, 1, 59, 60}) {
            Check.due("mean(" + n + ", 0)", x.mean(n, 0), 5 * n);
            Check.due("mean(" + n + ", 1)", x.mean(n, 1), 1);
            for (int part = 0; part < 2; part++) Check.due("mean without PUPILS", new OneDidAll().mean(n, part), NO);
        }
    }

    private static void planAndDone() {
        Says.promise(26, "A row comes to the PLAN: how many there are (what -1: none then, 0, whatever the other is). NONE: what, pupil (but by 0); FULL: 8.");
        for (int other : new int[] {-1, 0, 1, 6, LEAST, MOST}) {
            OneDidAll x = Rooms.plain(1);
            Check.due("plan(-1, " + other + ") of none", x.plan(-1, other), 0);
            for (int n = 1; n <= 8; n++) Check.due("plan to " + n, x.plan(0, other), n);
            Check.due("plan(0, " + other + "), the 9th", x.plan(0, other), FULL);
            for (int what = 1; what < 4; what++) {
                Check.due("plan(" + what + ", " + other + "), the 9th", x.plan(what, other), other == 0 ? FULL : NONE);
            }
            for (int what : new int[] {-2, 4, LEAST, MOST}) Check.due("plan(" + what + ", 0), the 9th", x.plan(what, 0), NONE);
            Check.due("count(3)", x.count(3), 8);
            Check.due("done(1)", x.done(1), 40);
            Check.due("plan(-1, " + other + ")", x.plan(-1, other), 0);
            Check.due("count(3)", x.count(3), 0);
            Says.promise(27, "DONE: what 0 WORK more, 1 HOURS of all more. NONE.");
            Check.due("done(0) of none", x.done(0), 0);
            Check.due("done(1) of none", x.done(1), 0);
            for (int what : new int[] {-1, 2, LEAST, MOST}) Check.due("done(" + what + ")", x.done(what), NONE);
            Says.promise(26, "FULL: 8.");
            Check.due("plan(1, 0)", x.plan(1, 0), 1);
            Check.due("plan(0, 0)", x.plan(0, 0), 2);
            Check.due("done(1)", x.done(1), 0);
        }
    }

    private static void bookAndLooked() {
        Says.promise(28, "A row comes to BOOK: how many there are (pupil -1: none then, 0, whatever the other is). NONE; BAD: hours; FULL: 8.");
        for (int other : new int[] {-1, 0, 9999, 10000, LEAST, MOST}) {
            OneDidAll x = Rooms.plain(1);
            Check.due("book(-1, " + other + ") of none", x.book(-1, other), 0);
            for (int n = 1; n <= 8; n++) Check.due("book to " + n, x.book(0, n == 8 ? 9999 : 0), n);
            boolean isBad = other < 0 || other > 9999;
            Check.due("book(0, " + other + "), the 9th", x.book(0, other), isBad ? BAD : FULL);
            for (int p : new int[] {1, 6, -2, LEAST, MOST}) Check.due("book(" + p + ", " + other + "), the 9th", x.book(p, other), NONE);
            Check.due("count(4)", x.count(4), 8);
            Says.promise(29, "LOOKED at; -5.");
            Check.due("looked()", x.looked(), 7);
            Check.due("book(-1, " + other + ")", x.book(-1, other), 0);
            Check.due("looked() of none", x.looked(), NOTHING);
            Says.promise(28, "FULL: 8.");
            Check.due("count(4)", x.count(4), 0);
            Check.due("book(0, " + other + "), the first", x.book(0, other), isBad ? BAD : 1);
        }
    }

    private static void act() {
        Says.promise(30, "An ACT (0 thinks, 1 writes, 2 tells) of a PUPIL with x. 0, and no TRACE then: no such PUPIL, act.");
        OneDidAll x = Rooms.plain(1);
        int[] due = {7, 7, 14};
        int[][] wrong = {{-1, 0}, {1, 0}, {6, 0}, {LEAST, 0}, {MOST, 0}, {0, -1}, {0, 3}, {0, LEAST}, {0, MOST}, {1, 3}, {-1, -1}};
        for (int[] one : wrong) {
            for (int act = 0; act < 3; act++) {
                Check.due("act(0, " + act + ", 7)", x.act(0, act, 7), due[act]);
                Check.due("count(6)", x.count(6), act + 1);
                Check.due("trace(0)", x.trace(0), act + 1);
                Check.due("act(" + one[0] + ", " + one[1] + ", 7)", x.act(one[0], one[1], 7), 0);
                Check.due("count(6) behind it", x.count(6), 0);
                Check.due("trace(0) behind it", x.trace(0), NONE);
            }
        }
        OneDidAll y = Rooms.some();
        OneDidAll z = Rooms.some();
        for (int act = 0; act < 3; act++) y.act(0, act, 9);
        y.act(9, 9, 9);
        z.act(-1, -1, -1);
        Twin.same("acts: but THE TRACE", y, z);
    }

    private static void trace() {
        Says.promise(31, "THE TRACE's i-th body. NONE.");
        OneDidAll x = new OneDidAll();
        x.pupil(4, 0, 1, 0);
        for (int i : new int[] {-1, 0, 1, 19, 20, LEAST, MOST}) Check.due("trace(" + i + ") ahead of all acts", x.trace(i), NONE);
        x.act(0, 2, 1);
        int[] bodies = {41, 3, 2, 11, 1, 11, 1};
        for (int i = 0; i < 7; i++) Check.due("trace(" + i + ")", x.trace(i), bodies[i]);
        for (int i : new int[] {-1, 7, 8, 19, 20, LEAST, MOST}) Check.due("trace(" + i + ")", x.trace(i), NONE);
        x.act(0, 0, 1);
        int[] fewer = {11, 1, NONE, NONE, NONE, NONE, NONE};
        for (int i = 0; i < 7; i++) Check.due("trace(" + i + ") of a shorter act", x.trace(i), fewer[i]);
    }

    private static void as() {
        Says.promise(32, "A PUPIL taken for a KIND k (0 .. 6), or one under that: its v. NONE: pupil, k; -6: it is of another KIND.");
        int[] above = {0, 0b1, 0b1, 0b1, 0b11, 0b101, 0b1001};
        for (int kind = 0; kind <= 6; kind++) {
            for (int v = 0; v <= 9; v += 9) {
                OneDidAll x = new OneDidAll();
                x.pupil(kind, v, 1, 0);
                for (int k = 0; k <= 6; k++) {
                    boolean is = k == kind || (above[kind] >> k & 1) == 1;
                    Check.due("as(0, " + k + ") of kind " + kind, x.as(0, k), is ? v : -6);
                    for (int p : new int[] {-1, 1, 6, LEAST, MOST}) Check.due("as(" + p + ", " + k + ")", x.as(p, k), NONE);
                }
                for (int k : new int[] {-1, 7, LEAST, MOST}) Check.due("as(0, " + k + ")", x.as(0, k), NONE);
            }
        }
    }

    private static void image() {
        Says.promise(33, "THE IMAGE is taken: how many PUPILS there are.");
        OneDidAll x = new OneDidAll();
        for (int size = 0; size <= 6; size++) {
            Check.due("image() of " + size, x.image(), size);
            Check.due("image() of " + size + " once more", x.image(), size);
            x.pupil(0, size, 1, 0);
        }
        // THE IMAGE changes nothing of what there is, but what undo() goes to.
        OneDidAll y = Rooms.some();
        OneDidAll z = Rooms.some();
        y.image();
        y.undo();
        z.image();
        Twin.same("undo() at once", y, z);
    }

    private static void undo() {
        Says.promise(34, "All is as THE IMAGE: how many PUPILS. STATE: there is none.");
        OneDidAll x = new OneDidAll();
        Check.due("undo()", x.undo(), STATE);
        x.pupil(0, 1, 1, 1);
        Check.due("undo()", x.undo(), STATE);
        Check.due("count(0)", x.count(0), 1);
        x.image();
        for (int more = 0; more < 6; more++) {
            for (int p = 0; p < more; p++) x.pupil(6, 2, 2, 2);
            Check.due("count(0)", x.count(0), 1 + more);
            Check.due("undo()", x.undo(), 1);
            Check.due("count(0)", x.count(0), 1);
            Check.due("of(1, 0)", x.of(1, 0), NONE);
        }
        // A new one in an undone one's place has nothing of it.
        x.pupil(6, 9, 9, 99);
        for (int k = 0; k < 4; k++) x.row(1, k, 9);
        x.pass(3);
        x.out(1, true);
        x.book(1, 42);
        x.plan(1, 1);
        x.undo();
        Check.due("looked()", x.looked(), NOTHING);
        Check.due("done(1)", x.done(1), 0);
        x.pupil(6, 1, 1, 99);
        int[] due = {6, 1, 1, 99, 0, 0, 5, 5, 0, 0};
        for (int what = 0; what < 10; what++) Check.due("of(1, " + what + ")", x.of(1, what), due[what]);
        for (int k = 0; k < 4; k++) Check.due("row(1, " + k + ", 0)", x.row(1, k, 0), 0);
    }

    private static void count() {
        Says.promise(35, "0 PUPILS, 1 CLASSES, 2 of SEEN, 3 of the PLAN, 4 rows of BOOK, 5 signs of THE TAPE, 6 bodies that ran in the latest act() "
            + "(all, kept or not). NONE.");
        OneDidAll x = Rooms.full();
        x.act(1, 2, 0);
        int[] due = {6, 5, 5, 8, 8, 100, 7};
        for (int what = 0; what < 7; what++) Check.due("count(" + what + ")", x.count(what), due[what]);
        for (int what : new int[] {-1, 7, 8, LEAST, MOST}) Check.due("count(" + what + ")", x.count(what), NONE);
    }
}
