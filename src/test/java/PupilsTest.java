/** Promises 1 to 11: classes, pupils, weeks that go. */
public final class PupilsTest {
    private static final int NONE = -1, BAD = -2, STATE = -3, FULL = -4;

    public static void main(String[] args) {
        aNewObject();
        feed();
        schoolReads();
        schoolTellsFaults();
        schoolKeepsClasses();
        whatIsRead();
        pupil();
        of();
        does();
        claims();
        row();
        willAndOut();
        told();
        mark();
        pass();
        passHolds();
        Check.end();
    }

    private static void aNewObject() {
        OneDidAll x = new OneDidAll();
        for (int what = 0; what <= 6; what++) Check.due("new: count(" + what + ")", x.count(what), 0);
        Check.due("new: of(0, 0)", x.of(0, 0), NONE);
        Check.due("new: told(0)", x.told(0), 0);
        Check.due("new: told(1)", x.told(1), 0);
        Check.due("new: told(2)", x.told(2), 60);
        Check.due("new: told(3)", x.told(3), 2);
        Check.due("new: trace(0)", x.trace(0), NONE);
        Check.due("new: undo()", x.undo(), STATE);
        Check.due("the constant NO", OneDidAll.NO, Long.MIN_VALUE);
    }

    private static void feed() {
        OneDidAll x = new OneDidAll();
        Check.due("feed(-1)", x.feed(-1), BAD);
        Check.due("feed(128)", x.feed(128), BAD);
        Check.due("feed(least)", x.feed(Integer.MIN_VALUE), BAD);
        Check.due("feed(greatest)", x.feed(Integer.MAX_VALUE), BAD);
        Check.due("count(5)", x.count(5), 0);
        Check.due("feed(0)", x.feed(0), 1);
        Check.due("feed(127)", x.feed(127), 2);
        for (int n = 3; n <= 100; n++) Check.due("feed to " + n, x.feed(103), n);
        Check.due("feed(103) when full", x.feed(103), FULL);
        Check.due("feed(128) when full", x.feed(128), BAD);
        Check.due("count(5) when full", x.count(5), 100);
        Check.due("school()", x.school(), -10);
        Check.due("feed(103) behind a fault", x.feed(103), 1);
    }

    private static void schoolReads() {
        String[] texts = {
            "goal 0", "goal 9", "goal 10", "fair 99", "spur 0 p=0", "shirk 10 k<3", "spur 1 s>99|w=1",
            "spur 0 !p=1", "spur 1 (p=1)", "spur 1 !(!(!p=1))", "spur 1 (((((p=1)))))", "spur 1 !!!!!p=1",
            "spur 1 !p=1&!!!!!p=1", "spur 1 ((((!p=1&!p=2))))", "spur 1 !((((p=1))))&(((((h=1)))))",
            "spur 1 (p=1|v=1)&!(k=1|s=2)|w<0", "fair 1;spur 10 p=10;goal 1",
            "goal 1;goal 1;goal 1;goal 1;goal 1;goal 1;goal 1;goal 1;goal 1;goal 1",
            "spur 1 p=1;fair 1;fair 1;fair 1;fair 1;fair 1;fair 1;fair 1;fair 1;shirk 2 p=2",
        };
        for (String text : texts) {
            OneDidAll x = new OneDidAll();
            Check.due("school() of " + text, Check.teach(x, text), 0);
            Check.due("count(1)", x.count(1), 1);
            Check.due("count(5)", x.count(5), 0);
        }
        String whole = "goal 10;spur 10 !" + "p=1|".repeat(20) + "p=1";
        OneDidAll x = new OneDidAll();
        Check.feedAll(x, whole);
        Check.due("count(5): a full tape", x.count(5), 100);
        Check.due("school() of a full tape", x.school(), 0);
    }

    private static void schoolTellsFaults() {
        fault("", 0);
        fault(";", 0);
        fault(" goal 1", 0);
        fault("Goal 1", 0);
        fault("gaol 1", 1);
        fault("goal", 4);
        fault("goal1", 4);
        fault("goal ", 5);
        fault("goal  1", 5);
        fault("goal x", 5);
        fault("goal -1", 5);
        fault("goal 01", 6);
        fault("goal 00", 6);
        fault("goal 100", 7);
        fault("goal 1 ", 6);
        fault("goal 1;", 7);
        fault("goal 1;;", 7);
        fault("goal 1; fair 1", 7);
        fault("goal 1 p=1", 6);
        fault("f", 1);
        fault("fail 1", 3);
        fault("fair 1&", 6);
        fault("s", 1);
        fault("sp", 2);
        fault("sh", 2);
        fault("sour 1", 1);
        fault("spurt", 4);
        fault("spirk 1", 2);
        fault("shirk", 5);
        fault("shur 1", 2);
        fault("shirk 1", 7);
        fault("shirk 1 ", 8);
        fault("shirk 1;", 7);
        fault("spur 1  p=1", 7);
        fault("spur 1 q=1", 7);
        fault("spur 1 =1", 7);
        fault("spur 1 p1", 8);
        fault("spur 1 p", 8);
        fault("spur 1 p!1", 8);
        fault("spur 1 p =1", 8);
        fault("spur 1 p=", 9);
        fault("spur 1 p=a", 9);
        fault("spur 1 p==1", 9);
        fault("spur 1 p=00", 10);
        fault("spur 1 p=123", 11);
        fault("spur 1 ()", 8);
        fault("spur 1 (p=1", 11);
        fault("spur 1 (p=1;", 11);
        fault("spur 1 (p=1))", 12);
        fault("spur 1 p=1)", 10);
        fault("spur 1 p=1&", 11);
        fault("spur 1 p=1&;", 11);
        fault("spur 1 p=1&&p=1", 11);
        fault("spur 1 p=1|", 11);
        fault("spur 1 p=1|&p=1", 11);
        fault("spur 1 p=1 |p=2", 10);
        fault("spur 1 p=1p=2", 10);
        fault("spur 1 !", 8);
        fault("spur 1 ((((((p=1", 12);
        fault("spur 1 !(!(!(p=1", 12);
        fault("spur 1 (((((!p=1", 12);
        fault("spur 1 !!!!!(p=1", 12);
        fault("spur 1 ((((!p=1&!!p=1))))", 17);
        fault("spur 1 !p=1|((((((p=1", 17);
        fault("fair 1;".repeat(10) + "fair 1", 69);
        fault("fair 1;".repeat(10), 69);
        fault("fair 1;".repeat(9), 63);
    }

    private static void fault(String text, int place) {
        OneDidAll x = Check.taught("goal 33");
        Check.due("school() of " + text, Check.teach(x, text), -10 - place);
        Check.due("count(5) behind the fault", x.count(5), 0);
        Check.due("count(1) behind the fault", x.count(1), 1);
        Check.due("told(2) behind the fault", x.told(2), 33);
    }

    private static void schoolKeepsClasses() {
        OneDidAll x = new OneDidAll();
        for (int n = 0; n < 5; n++) {
            Check.due("school() number " + n, Check.teach(x, "goal " + (n + 11)), n);
            Check.due("told(2) by class " + n, x.told(2), n + 11);
        }
        Check.feedAll(x, "goal 9");
        Check.due("school() of a sixth", x.school(), FULL);
        Check.due("count(5): the tape stays", x.count(5), 6);
        Check.feedAll(x, "x");
        Check.due("school() of a sixth with a fault", x.school(), FULL);
        Check.due("count(5): the tape stays", x.count(5), 7);
        Check.due("count(1)", x.count(1), 5);
        Check.due("told(2)", x.told(2), 15);
        OneDidAll y = Check.taught("goal 0;fair 7;goal 8;fair 0");
        Check.due("told(2): the last goal", y.told(2), 8);
        Check.due("told(3): the last fair", y.told(3), 0);
        Check.teach(y, "goal 5;goal 0");
        Check.due("told(2): 1 if less", y.told(2), 1);
        Check.due("told(3): 2 without", y.told(3), 2);
        Check.teach(y, "fair 99");
        Check.due("told(2): 60 without", y.told(2), 60);
        Check.due("told(3)", y.told(3), 99);
    }

    /** PUPIL 1 is a LEADER of v 7, SKILL 3, 20 HOURS, in WEEK 3. */
    private static void whatIsRead() {
        String[] yes = {
            "p=1", "p>0", "p<2", "k=4", "k<5", "v=7", "v>6", "s=3", "s<4", "h=2", "h>1", "h<3", "w=3", "w>2",
            "p=1|p=0", "p=0|p=1", "p=0&p=0|p=1", "p=1|p=1&p=0", "!p=0", "!!p=1", "!(p=0&p=0)", "!(p=0|v=0)",
            "(p=1|p=0)&(k=4|k=1)", "p=1&k=4&v=7", "p=0|k=0|v=7", "(((((p=1)))))", "!!!!p=1", "p<10&v<99",
            "p=0|p=0&p=0|!(p=0|(p=0|p=1&p=0))",
        };
        String[] no = {
            "p=0", "p<1", "p>1", "k=0", "k>4", "v<7", "s>3", "h=20", "h<2", "w=4", "w<3", "p=1&p=0", "p=0&p=1",
            "!p=1", "!p=0&p=0", "(p=1|p=1)&p=0", "!(p=1|v=0)", "p=1&k=4&v=8", "p=0|k=0|v=8", "!!!!!p=1",
            "p=0|p=0|p=0&(p=1|p=1)",
        };
        for (String test : yes) Check.due("ZEAL by spur 9 " + test, leaderBy("spur 9 " + test).of(1, 6), 14);
        for (String test : no) Check.due("ZEAL by spur 9 " + test, leaderBy("spur 9 " + test).of(1, 6), 5);
        OneDidAll later = Check.taught("spur 9 w=3&p=0;spur 20 h=1&p=0");
        later.pupil(0, 0, 1, 1);
        later.pass(13);
        Check.due("ZEAL in WEEK 13, behind 13 HOURS", later.of(0, 6), 34);
        later.pass(6);
        Check.due("ZEAL in WEEK 19, behind 19 HOURS", later.of(0, 6), 25);
        later.pass(1);
        Check.due("ZEAL in WEEK 20, behind 20 HOURS", later.of(0, 6), 5);
        Check.due("ZEAL by shirk", leaderBy("shirk 3 p=1").of(1, 6), 2);
        Check.due("ZEAL, 0 at least", leaderBy("shirk 9 p=1").of(1, 6), 0);
        Check.due("ZEAL of all together", leaderBy("shirk 9 p=1;spur 6 k=4;spur 7 p=0;shirk 1 w=3").of(1, 6), 1);
        Check.due("ZEAL, 0 at least, in the end alone", leaderBy("shirk 99 p=1;spur 99 p=1").of(1, 6), 5);
        Check.due("ZEAL of another", leaderBy("spur 4 p=0&h=1;spur 1 p=1").of(0, 6), 9);
    }

    private static OneDidAll leaderBy(String text) {
        OneDidAll x = new OneDidAll();
        x.pupil(0, 0, 1, 5);
        x.pupil(4, 7, 3, 9);
        x.pass(3);
        Check.due("HOURS of the leader", x.of(1, 4), 20);
        Check.teach(x, text);
        return x;
    }

    private static void pupil() {
        OneDidAll x = new OneDidAll();
        Check.due("pupil(-1, 10, 0, 100)", x.pupil(-1, 10, 0, 100), NONE);
        Check.due("pupil(7, ..)", x.pupil(7, 0, 1, 0), NONE);
        Check.due("pupil: v -1", x.pupil(0, -1, 1, 0), BAD);
        Check.due("pupil: v 10", x.pupil(0, 10, 1, 0), BAD);
        Check.due("pupil: skill 0", x.pupil(0, 0, 0, 0), BAD);
        Check.due("pupil: skill 10", x.pupil(0, 0, 10, 0), BAD);
        Check.due("pupil: will -1", x.pupil(0, 0, 1, -1), BAD);
        Check.due("pupil: will 100", x.pupil(0, 0, 1, 100), BAD);
        Check.due("count(0)", x.count(0), 0);
        Check.due("pupil: all least", x.pupil(0, 0, 1, 0), 0);
        Check.due("pupil: all greatest", x.pupil(6, 9, 9, 99), 1);
        for (int i = 2; i < 6; i++) Check.due("pupil number " + i, x.pupil(i - 1, i, i, i), i);
        Check.due("a seventh", x.pupil(0, 0, 1, 0), FULL);
        Check.due("a seventh, BAD", x.pupil(0, 0, 1, 100), BAD);
        Check.due("a seventh, NONE", x.pupil(7, 0, 1, 100), NONE);
        Check.due("count(0)", x.count(0), 6);
        Check.due("of(1, 4)", x.of(1, 4), 0);
        Check.due("of(1, 5)", x.of(1, 5), 0);
    }

    private static void of() {
        OneDidAll x = new OneDidAll();
        x.pupil(4, 7, 3, 40);
        x.pupil(1, 1, 2, 50);
        x.pass(1);
        x.out(1, true);
        int[] first = {4, 7, 3, 38, 8, 0, 5, 9, 61, 54};
        int[] second = {1, 1, 2, 51, 5, 1, 5, 0, 38, 37};
        for (int what = 0; what < 10; what++) {
            Check.due("of(0, " + what + ")", x.of(0, what), first[what]);
            Check.due("of(1, " + what + ")", x.of(1, what), second[what]);
        }
        Check.due("of(-1, 0)", x.of(-1, 0), NONE);
        Check.due("of(2, 0)", x.of(2, 0), NONE);
        Check.due("of(0, -1)", x.of(0, -1), NONE);
        Check.due("of(0, 10)", x.of(0, 10), NONE);
    }

    private static void does() {
        int[] due = {5, 5 + 4, 2, 5, 5 + 4, 0, 5 + 3};
        for (int kind = 0; kind <= 6; kind++) {
            OneDidAll x = new OneDidAll();
            x.pupil(kind, 9, 5, 99);
            x.pupil(0, 0, 6, 99);
            x.pupil(0, 0, 6, 99);
            x.pupil(0, 0, 5, 99);
            x.row(0, 0, 3);
            Check.due("DOES of kind " + kind, x.of(0, 7), due[kind]);
            x.will(0, 1);
            Check.due("DOES of kind " + kind + ", WILL at most", x.of(0, 7), Math.min(1, due[kind]));
            x.will(0, 99);
            x.out(1, true);
            int by = kind == 4 ? 1 : kind == 5 ? 1 : 0;
            Check.due("DOES of kind " + kind + " when one is OUT", x.of(0, 7), due[kind] + by);
            Check.teach(x, "spur 6 p=0");
            int[] more = {11, 15, 5, 11, 16, 4, 14};
            Check.due("DOES of kind " + kind + " when spurred", x.of(0, 7), more[kind]);
            x.out(0, true);
            Check.due("DOES of kind " + kind + " when OUT", x.of(0, 7), 0);
        }
        OneDidAll y = new OneDidAll();
        y.pupil(5, 0, 1, 99);
        for (int i = 0; i < 5; i++) y.pupil(0, 0, 9, 0);
        Check.due("DOES of a SHY one, 0 at least", y.of(0, 7), 0);
        OneDidAll z = new OneDidAll();
        z.pupil(6, 0, 1, 99);
        int[] row = {9, 0, 5, 1};
        for (int k = 0; k < 4; k++) z.row(0, k, row[k]);
        for (int week = 0; week < 9; week++) {
            Check.due("DOES of a TOLD one in WEEK " + week, z.of(0, 7), 5 + row[week % 4]);
            z.pass(1);
        }
    }

    private static void claims() {
        // Both have had 5 HOURS, so that a SHARE is 50.
        int[] due = {50, 41, 59, 100, 41, 29, 100};
        for (int kind = 0; kind <= 6; kind++) {
            OneDidAll x = new OneDidAll();
            x.pupil(kind, 9, 9, 5);
            x.pupil(0, 0, 1, 5);
            Check.due("CLAIM of kind " + kind + " ahead of all work", x.of(0, 9), kind == 2 ? 9 : kind == 5 ? 4 : 0);
            if (kind == 2 || kind == 5) Check.teach(x, "spur 6 p=0");
            x.pass(1);
            Check.due("SHARE", x.of(0, 8), 50);
            Check.due("CLAIM of kind " + kind, x.of(0, 9), due[kind]);
            Check.due("CLAIMS of all", x.told(5), due[kind] + 50);
            x.row(0, 1, 7);
            Check.due("CLAIM of kind " + kind + ", 100 at most", x.of(0, 9), due[kind]);
        }
        OneDidAll y = new OneDidAll();
        y.pupil(5, 9, 1, 99);
        Check.teach(y, "spur 10 p=0");
        y.pass(1);
        Check.due("CLAIM of a SHY one: held ahead of halving", y.of(0, 9), 50);
        OneDidAll z = new OneDidAll();
        z.pupil(6, 0, 1, 5);
        z.pupil(0, 0, 1, 15);
        Check.teach(z, "spur 10 p=1");
        z.pass(1);
        Check.due("SHARE", z.of(0, 8), 25);
        z.row(0, 1, 7);
        z.row(0, 0, 3);
        Check.due("CLAIM of a TOLD one", z.of(0, 9), 57);
        z.out(1, true);
        Check.due("SHARE is by HOURS of all, OUT or not", z.of(0, 8), 25);
        Check.due("CLAIMS of all, OUT or not", z.told(5), 57 + 75);
    }

    private static void row() {
        OneDidAll x = new OneDidAll();
        x.pupil(0, 0, 1, 0);
        x.pupil(6, 0, 1, 0);
        Check.due("row(1, 0, 9)", x.row(1, 0, 9), 0);
        Check.due("row(1, 0, 4)", x.row(1, 0, 4), 9);
        Check.due("row(1, 3, 0)", x.row(1, 3, 0), 0);
        Check.due("row(1, 0, 0)", x.row(1, 0, 0), 4);
        Check.due("row(-1, 0, 0)", x.row(-1, 0, 0), NONE);
        Check.due("row(2, 0, 0)", x.row(2, 0, 0), NONE);
        Check.due("row(1, -1, 0)", x.row(1, -1, 0), NONE);
        Check.due("row(1, 4, 10)", x.row(1, 4, 10), NONE);
        Check.due("row(1, 0, -1)", x.row(1, 0, -1), BAD);
        Check.due("row(1, 0, 10)", x.row(1, 0, 10), BAD);
        Check.due("row(0, 0, 10)", x.row(0, 0, 10), BAD);
        Check.due("row(0, 0, 1)", x.row(0, 0, 1), STATE);
        Check.due("row(0, 4, 1)", x.row(0, 4, 1), NONE);
        Check.due("row(1, 0, 0) once more", x.row(1, 0, 0), 0);
        for (int kind = 1; kind < 5; kind++) {
            x.pupil(kind, 0, 1, 0);
            Check.due("row of kind " + kind, x.row(kind + 1, 0, 1), STATE);
        }
    }

    private static void willAndOut() {
        OneDidAll x = new OneDidAll();
        x.pupil(0, 0, 1, 42);
        Check.due("will(0, 0)", x.will(0, 0), 42);
        Check.due("will(0, 99)", x.will(0, 99), 0);
        Check.due("will(0, 100)", x.will(0, 100), BAD);
        Check.due("will(0, -1)", x.will(0, -1), BAD);
        Check.due("will(1, -1)", x.will(1, -1), NONE);
        Check.due("will(-1, 0)", x.will(-1, 0), NONE);
        Check.due("of(0, 3)", x.of(0, 3), 99);
        Check.due("out(0, true)", x.out(0, true), 0);
        Check.due("out(0, true) once more", x.out(0, true), 1);
        Check.due("of(0, 5)", x.of(0, 5), 1);
        Check.due("out(0, false)", x.out(0, false), 1);
        Check.due("out(0, false) once more", x.out(0, false), 0);
        Check.due("out(1, true)", x.out(1, true), NONE);
        Check.due("out(-1, true)", x.out(-1, true), NONE);
    }

    private static void told() {
        OneDidAll x = Check.taught("goal 40;fair 3");
        x.pupil(0, 0, 2, 99);
        x.pupil(2, 7, 1, 99);
        x.pass(2);
        x.out(1, true);
        // 10 hours by SKILL 2 and 4 by SKILL 1; SHARES 71 and 28.
        int[] due = {2, 24, 40, 3, 14, 71 + 35, 60};
        for (int what = 0; what < 7; what++) Check.due("told(" + what + ")", x.told(what), due[what]);
        Check.due("told(-1)", x.told(-1), NONE);
        Check.due("told(7)", x.told(7), NONE);
        x.pass(2);
        Check.due("told(6): 100 at most", x.told(6), 100);
        Check.teach(x, "goal 0");
        Check.due("told(2): 1 at least", x.told(2), 1);
        Check.due("told(6) by that goal", x.told(6), 100);
        Check.due("told(6) by that goal without WORK", Check.taught("goal 0").told(6), 0);
        OneDidAll y = Check.taught("goal 99;spur 9 p=0");
        y.pupil(0, 0, 7, 14);
        Check.due("pass(1)", y.pass(1), 98);
        Check.due("told(6), cut", y.told(6), 98);
    }

    private static void mark() {
        OneDidAll x = Check.taught("goal 90");
        x.pupil(0, 0, 5, 99);
        x.pupil(3, 0, 3, 2);
        x.pupil(1, 4, 2, 9);
        x.pass(1);
        // HOURS 5, 2, 7; WORK 45; SHARES 35, 14, 50; CLAIMS 35, 28, 46; BASE 50.
        Check.due("told(6)", x.told(6), 50);
        int[][] due = {{50, 50, 50}, {53, 21, 75}, {48, 38, 63}, {11, 11, 11}};
        dueMarks(x, due);
        x.out(2, true);
        int[][] without = {{50, 50, 0}, {71, 28, 0}, {55, 44, 0}, {16, 16, 0}};
        dueMarks(x, without);
        x.out(0, true);
        int[][] one = {{0, 50, 0}, {0, 50, 0}, {0, 50, 0}, {0, 16, 0}};
        dueMarks(x, one);
        Check.due("mark(3, 0)", x.mark(3, 0), NONE);
        Check.due("mark(-1, 0)", x.mark(-1, 0), NONE);
        Check.due("mark(0, 4)", x.mark(0, 4), NONE);
        Check.due("mark(0, -1)", x.mark(0, -1), NONE);
        x.pupil(0, 0, 9, 9);
        x.out(1, true);
        Check.due("mark by no HOURS is BASE", x.mark(3, 1), 50);
        Check.due("mark by no CLAIMS is BASE", x.mark(3, 2), 50);
        OneDidAll y = Check.taught("goal 10;spur 20 p=0");
        y.pupil(0, 0, 1, 25);
        y.pupil(0, 0, 1, 5);
        y.pass(1);
        Check.due("mark, 100 at most", y.mark(0, 1), 100);
        Check.due("mark by HOURS", y.mark(1, 1), 33);
    }

    private static void dueMarks(OneDidAll x, int[][] due) {
        for (int rule = 0; rule < due.length; rule++) {
            for (int p = 0; p < due[rule].length; p++) {
                Check.due("mark(" + p + ", " + rule + ")", x.mark(p, rule), due[rule][p]);
            }
        }
    }

    private static void pass() {
        OneDidAll x = new OneDidAll();
        x.pupil(0, 0, 2, 99);
        x.pupil(1, 8, 3, 99);
        x.pupil(2, 0, 1, 1);
        x.pupil(0, 0, 9, 50);
        x.out(3, true);
        Check.due("pass(0)", x.pass(0), 0);
        Check.due("told(0)", x.told(0), 0);
        // They do 5, 9, 1: the AVERAGE is 5.
        Check.due("pass(1)", x.pass(1), 10 + 27 + 1);
        Check.due("told(0)", x.told(0), 1);
        int[] wills = {99, 97, 2, 50};
        int[] hours = {5, 9, 1, 0};
        for (int p = 0; p < 4; p++) {
            Check.due("of(" + p + ", 3)", x.of(p, 3), wills[p]);
            Check.due("of(" + p + ", 4)", x.of(p, 4), hours[p]);
        }
        Check.due("pass(-1)", x.pass(-1), BAD);
        Check.due("pass(61)", x.pass(61), BAD);
        Check.due("pass(60)", x.pass(60) > 38 ? 1 : 0, 1);
        Check.due("told(0)", x.told(0), 61);
        OneDidAll y = Check.taught("spur 1 p=0&w<2;fair 99");
        y.pupil(0, 0, 1, 8);
        y.pupil(0, 0, 1, 99);
        y.pass(1);
        Check.due("AVERAGE is cut: nobody below it", y.of(1, 3), 99);
        Check.due("WILL 0 at least", y.of(0, 3), 0);
        y.pass(1);
        Check.due("WILL 1 more", y.of(0, 3), 1);
        OneDidAll z = Check.taught("spur 90 p=1");
        z.pupil(0, 0, 1, 99);
        z.pupil(0, 0, 1, 99);
        z.pass(1);
        Check.due("WILL 99 at most", z.of(0, 3), 99);
        Check.due("WILL less FAIR", z.of(1, 3), 97);
        OneDidAll u = Check.taught("spur 5 h=0&p=0");
        u.pupil(0, 0, 1, 99);
        u.pass(1);
        Check.due("by how all is ahead of it", u.of(0, 4), 10);
        u.pass(1);
        Check.due("by how all is ahead of it", u.of(0, 4), 15);
        OneDidAll out = new OneDidAll();
        out.pupil(0, 0, 1, 7);
        out.out(0, true);
        Check.due("pass(5): all are OUT", out.pass(5), 0);
        Check.due("told(0)", out.told(0), 5);
        Check.due("of(0, 3)", out.of(0, 3), 7);
    }

    private static void passHolds() {
        OneDidAll x = Check.taught("spur 94 p<9;fair 0");
        x.pupil(0, 0, 9, 99);
        x.pupil(0, 0, 9, 99);
        for (int i = 0; i < 2; i++) x.pass(50);
        Check.due("of(0, 4) near its end", x.of(0, 4), 9900);
        Check.due("told(1): 99999 at most", x.told(1), 99999);
        x.pass(1);
        Check.due("of(0, 4) at its end", x.of(0, 4), 9999);
        Check.due("pass(1)", x.pass(1), 99999);
        Check.due("of(0, 4): 9999 at most", x.of(0, 4), 9999);
        for (int week = 102; week + 60 <= 9999; week += 60) x.pass(60);
        int left = 9999 - x.told(0);
        Check.due("pass beyond WEEK 9999", x.pass(left + 1), STATE);
        Check.due("pass(61) there", x.pass(61), BAD);
        Check.due("pass to WEEK 9999", x.pass(left), 99999);
        Check.due("told(0)", x.told(0), 9999);
        Check.due("pass(1) there", x.pass(1), STATE);
        Check.due("pass(0) there", x.pass(0), 99999);
        Check.due("on(60, 0): not held", x.on(60, 0), 60 * 2 * 99 * 9);
        Check.due("on(60, 1): not held", x.on(60, 1), 60 * 2 * 99);
        Check.due("alone(0): not held", x.alone(0), 20 * 99 * 9);
        Check.due("part(1, 0): not held", x.part(1, 0), 5 * 99 * 9);
        x.see(2 * 99 * 9, 1);
        Check.due("skilled(0, 1): not held", x.skilled(0, 1), 9);
        Check.due("firm(0, 0): not held", x.firm(0, 0), 10);
        Check.due("told(0)", x.told(0), 9999);
    }
}
