/** Terms 1: the edges of PUPILS' numbers, of THE TAPE, of what a CLASS is read from. */
public final class TermsOneClassTest {
    private static final int NONE = -1, BAD = -2, STATE = -3, FULL = -4;

    public static void main(String[] args) {
        sixPupils();
        kinds();
        numbersOfPupils();
        rowsOfTold();
        tapeOfHundred();
        tenClauses();
        oneBlank();
        digits();
        parts();
        testsAtTheirNumbers();
        hoursByTen();
        weekModuloTen();
        fiveOpen();
        closedOnesAreNotOpen();
        deepest();
        faultAtEveryPlace();
        faultAtEveryEnd();
        faultOfFullTape();
        faultAtTheElseOfWords();
        fiveClasses();
        goalAndFair();
        Check.end();
    }

    private static void sixPupils() {
        Says.terms(1, "PUPILS are numbered from 0 on, 6 at most");
        OneDidAll x = new OneDidAll();
        for (int n = 0; n < 6; n++) {
            Check.due("of(" + n + ", 0) ahead of it", x.of(n, 0), NONE);
            Check.due("count(0)", x.count(0), n);
            Check.due("pupil number " + n, x.pupil(n + 1, n, n + 1, n), n);
            Check.due("of(" + n + ", 0)", x.of(n, 0), n + 1);
        }
        Check.due("the 7th", x.pupil(0, 0, 1, 0), FULL);
        Check.due("count(0)", x.count(0), 6);
        Check.due("of(6, 0)", x.of(6, 0), NONE);
        for (int n = 0; n < 6; n++) {
            Check.due("of(" + n + ", 0)", x.of(n, 0), n + 1);
            Check.due("of(" + n + ", 1)", x.of(n, 1), n);
            Check.due("of(" + n + ", 2)", x.of(n, 2), n + 1);
            Check.due("of(" + n + ", 3)", x.of(n, 3), n);
        }
    }

    private static void kinds() {
        Says.terms(1, "each of a KIND: 0 PUPIL; 1 KEEN, 2 IDLE, 3 BOASTER under PUPIL; 4 LEADER under KEEN; 5 SHY under IDLE; 6 TOLD under BOASTER");
        OneDidAll x = new OneDidAll();
        Check.due("pupil(-1, ..)", x.pupil(-1, 0, 1, 0), NONE);
        Check.due("pupil(0, ..)", x.pupil(0, 0, 1, 0), 0);
        Check.due("pupil(6, ..)", x.pupil(6, 0, 1, 0), 1);
        Check.due("pupil(7, ..)", x.pupil(7, 0, 1, 0), NONE);
        Check.due("of(0, 0)", x.of(0, 0), 0);
        Check.due("of(1, 0)", x.of(1, 0), 6);
    }

    private static void numbersOfPupils() {
        Says.terms(1, "a number v (0 .. 9), SKILL (1 .. 9), WILL (0 .. 99), HOURS (0 .. 9999; 0 at first), OUT (thrown out), or not (not at first)");
        int[][] numbers = {{0, 1, 0}, {9, 1, 0}, {0, 9, 0}, {0, 1, 99}, {9, 9, 99}, {1, 2, 1}};
        OneDidAll x = new OneDidAll();
        for (int n = 0; n < 6; n++) {
            Check.due("pupil " + n, x.pupil(n, numbers[n][0], numbers[n][1], numbers[n][2]), n);
            for (int what = 0; what < 3; what++) Check.due("of(" + n + ", " + (what + 1) + ")", x.of(n, what + 1), numbers[n][what]);
            Check.due("HOURS at first", x.of(n, 4), 0);
            Check.due("OUT at first", x.of(n, 5), 0);
        }
        OneDidAll y = new OneDidAll();
        int[][] wrong = {{-1, 1, 0}, {10, 1, 0}, {0, 0, 0}, {0, 10, 0}, {0, 1, -1}, {0, 1, 100}};
        for (int[] one : wrong) Check.due("pupil(0, " + one[0] + ", ..)", y.pupil(0, one[0], one[1], one[2]), BAD);
        Check.due("count(0)", y.count(0), 0);
    }

    private static void rowsOfTold() {
        Says.terms(1, "TOLD ones a ROW of four numbers (0 .. 9; 0 at first). WORK: 0 .. 99999, 0 at first. WEEK: 0 at first.");
        OneDidAll x = new OneDidAll();
        x.pupil(6, 0, 1, 99);
        x.pupil(6, 0, 1, 99);
        x.pupil(3, 0, 1, 99);
        Check.due("WORK", x.told(1), 0);
        Check.due("WEEK", x.told(0), 0);
        for (int k = 0; k < 4; k++) {
            Check.due("row(0, " + k + ", -1)", x.row(0, k, -1), BAD);
            Check.due("row(0, " + k + ", 10)", x.row(0, k, 10), BAD);
            Check.due("row(0, " + k + ", 9): at first", x.row(0, k, 9), 0);
            Check.due("row(0, " + k + ", 0): it was", x.row(0, k, 0), 9);
            Check.due("row(0, " + k + ", 5): it was", x.row(0, k, 5 + k), 0);
        }
        for (int k = 0; k < 4; k++) {
            Check.due("row(0, " + k + ", 0): each its own", x.row(0, k, 0), 5 + k);
            Check.due("row(1, " + k + ", 0): each one its own", x.row(1, k, 0), 0);
            Check.due("row(2, " + k + ", 0)", x.row(2, k, 0), STATE);
        }
        Check.due("row(0, -1, 0)", x.row(0, -1, 0), NONE);
        Check.due("row(0, 4, 0)", x.row(0, 4, 0), NONE);
    }

    private static void tapeOfHundred() {
        Says.terms(1, "A CLASS is read from THE TAPE (bytes, 100 at most)");
        OneDidAll x = new OneDidAll();
        for (int round = 0; round < 2; round++) {
            for (int n = 1; n <= 98; n++) x.feed(32);
            Check.due("the 99th", x.feed(0), 99);
            Check.due("the 100th", x.feed(127), 100);
            Check.due("the 101st", x.feed(32), FULL);
            Check.due("count(5)", x.count(5), 100);
            Check.due("school()", x.school(), -10);
            Check.due("count(5) behind it", x.count(5), 0);
        }
        String clause = "goal 10;spur 10 ";
        String tests = "p=1|".repeat(20) + "p=1";
        holdsOnTape(clause + tests, 99, 0);
        holdsOnTape(clause + "!" + tests, 100, 0);
        holdsOnTape(clause + "!!" + tests, 100, -110);
        OneDidAll z = Rooms.fullTape();
        Check.feedAll(z, "&p=2");
        Check.due("school() of the first 100 alone", z.school(), 0);
        Check.due("count(5)", z.count(5), 0);
    }

    private static void holdsOnTape(String text, int size, int due) {
        OneDidAll x = new OneDidAll();
        Check.feedAll(x, text);
        Check.due("count(5) of " + text.length(), x.count(5), size);
        Check.due("school() of " + text.length(), x.school(), due);
    }

    private static void tenClauses() {
        Says.terms(1, "CLAUSES, 10 at most, with ; between: goal n; fair n; spur n E; shirk n E");
        fault("", 0);
        isClass("fair 1");
        isClass("fair 1;".repeat(8) + "fair 1");
        isClass("fair 1;".repeat(9) + "fair 1");
        fault("fair 1;".repeat(10) + "fair 1", 69);
        fault("fair 1;".repeat(9), 63);
        fault("fair 1;".repeat(10), 69);
        fault("fair 1;".repeat(14), 69);
        for (String last : new String[] {"goal 2", "fair 22", "spur 1 p=1", "shirk 1 !(p=1)"}) {
            isClass("goal 1;".repeat(9) + last);
            fault("goal 1;".repeat(9) + last + ";" + last, 63 + last.length());
            fault("goal 1;".repeat(9) + last + ";", 63 + last.length());
        }
        OneDidAll x = Check.taught("fair 1;fair 2;fair 3;fair 4;fair 5;fair 6;fair 7;fair 8;fair 9;fair 10");
        Check.due("told(3): by the tenth", x.told(3), 10);
        OneDidAll y = Check.taught("spur 1 p=0;spur 2 p=0;spur 3 p=0;spur 4 p=0;spur 5 p=0;spur 6 p=0;spur 7 p=0;spur 8 p=0;spur 9 p=0");
        y.pupil(0, 0, 1, 0);
        Check.due("ZEAL by nine spurs", y.of(0, 6), 50);
        OneDidAll z = Check.taught("goal 0;goal 0;goal 0;spur 1 p=0;spur 2 p=0;spur 3 p=0;spur 4 p=0;spur 5 p=0;spur 6 p=0;spur 7 p=0");
        z.pupil(0, 0, 1, 0);
        Check.due("ZEAL by the last of ten", z.of(0, 6), 33);
    }

    private static void isClass(String text) {
        Check.due("school() of " + text, Check.teach(new OneDidAll(), text), 0);
    }

    private static void fault(String text, int place) {
        OneDidAll x = new OneDidAll();
        Check.due("school() of " + text, Check.teach(x, text), -10 - place);
        Check.due("count(1) behind it", x.count(1), 0);
        Check.due("count(5) behind it", x.count(5), 0);
    }

    private static void oneBlank() {
        Says.terms(1, "one blank ahead of each part behind the word");
        String[] words = {"goal 1", "fair 1", "spur 1 p=1", "shirk 1 p=1"};
        for (String word : words) {
            isClass(word);
            for (int at = word.indexOf(' '); at >= 0; at = word.indexOf(' ', at + 1)) {
                // Without the blank behind a number, what is there is no digit either.
                fault(word.substring(0, at) + word.substring(at + 1), at);
                fault(word.substring(0, at) + " " + word.substring(at), at + 1);
            }
            fault(" " + word, 0);
            fault(word + " ", word.length());
            fault(word + " ;goal 1", word.length());
            fault(word + "; goal 1", word.length() + 1);
        }
        fault("spur 1 p =1", 8);
        fault("spur 1 p= 1", 9);
        fault("spur 1 ! p=1", 8);
        fault("spur 1 ( p=1)", 8);
        fault("spur 1 (p=1 )", 11);
        fault("spur 1 p=1 &p=1", 10);
        fault("spur 1 p=1& p=1", 11);
    }

    private static void digits() {
        Says.terms(1, "n 1 or 2 digits, no 0 ahead of another");
        String[] heads = {"goal ", "fair ", "spur ", "shirk ", "spur 1 p=", "spur 1 p<", "spur 1 p>"};
        String[] tails = {"", "", " p=1", " p=1", "", "", ""};
        for (int i = 0; i < heads.length; i++) {
            int from = heads[i].length();
            for (String n : new String[] {"0", "1", "9", "10", "19", "90", "99"}) isClass(heads[i] + n + tails[i]);
            fault(heads[i] + tails[i], from);
            fault(heads[i] + "00" + tails[i], from + 1);
            fault(heads[i] + "01" + tails[i], from + 1);
            fault(heads[i] + "09" + tails[i], from + 1);
            fault(heads[i] + "000" + tails[i], from + 1);
            fault(heads[i] + "100" + tails[i], from + 2);
            fault(heads[i] + "999" + tails[i], from + 2);
            fault(heads[i] + "-1" + tails[i], from);
            fault(heads[i] + "+1" + tails[i], from);
            fault(heads[i] + "/" + tails[i], from);
            fault(heads[i] + ":" + tails[i], from);
            fault(heads[i] + "1/" + tails[i], from + 1);
            fault(heads[i] + "1:" + tails[i], from + 1);
        }
        int[] due = {1, 9, 10, 99};
        for (int n : due) {
            OneDidAll x = Check.taught("goal " + n + ";fair " + n + ";spur " + n + " p=0");
            x.pupil(0, 0, 1, 99);
            Check.due("told(2)", x.told(2), n);
            Check.due("told(3)", x.told(3), n);
            Check.due("of(0, 6)", x.of(0, 6), 5 + n);
            Check.teach(x, "spur 99 p=0;shirk " + n + " p=0");
            Check.due("of(0, 6)", x.of(0, 6), 5 + 99 - n);
        }
    }

    private static void parts() {
        Says.terms(1, "E: T, or T|E. T: F, or F&T. F: !F, (E), or a TEST: p or k or v or s or h or w, one of < = >, a number likewise");
        for (char subject : "pkvshw".toCharArray()) {
            for (char relation : "<=>".toCharArray()) isClass("spur 1 " + subject + relation + 1);
            fault("spur 1 " + subject, 8);
            fault("spur 1 " + subject + subject, 8);
        }
        for (char c = 0; c < 128; c++) {
            if ("pkvshw!(".indexOf(c) < 0) fault("spur 1 " + c + "=1", 7);
            if ("<=>".indexOf(c) < 0) fault("spur 1 p" + c + "1", 8);
            if ("0123456789".indexOf(c) < 0) fault("spur 1 p=" + c, 9);
            if ("0123456789&|;".indexOf(c) < 0) fault("spur 1 p=1" + c, 10);
            if ("&|;".indexOf(c) < 0) fault("spur 1 p=10" + c, 11);
            if ("0123456789&|)".indexOf(c) < 0) fault("spur 1 (p=1" + c, 11);
            if ("&|;".indexOf(c) < 0) fault("spur 1 (p=1)" + c, 12);
            if ("gfs".indexOf(c) < 0) fault("goal 1;" + c, 7);
        }
        fault("spur 1 ()", 8);
        fault("spur 1 !", 8);
        fault("spur 1 !)", 8);
        fault("spur 1 p=1&", 11);
        fault("spur 1 p=1|", 11);
        fault("spur 1 &p=1", 7);
        fault("spur 1 |p=1", 7);
        fault("spur 1 p=1&|p=1", 11);
        fault("spur 1 p=1|&p=1", 11);
        fault("spur 1 p=1|;goal 1", 11);
        fault("spur 1 (p=1|)", 12);
        fault("spur 1 (p=1", 11);
        fault("spur 1 ((p=1)", 13);
        fault("spur 1 p=1)", 10);
    }

    /** KIND 5, v 8, SKILL 3, number 1, 47 HOURS, WEEK 2: each just below, at and above its number. */
    private static void testsAtTheirNumbers() {
        Says.terms(1, "of one of PUPILS p its number, k its KIND, v its v, s its SKILL, h its HOURS by 10 (cut), w the WEEK modulo 10");
        int[] values = {1, 5, 8, 3, 4, 2};
        for (int i = 0; i < 6; i++) {
            OneDidAll x = Rooms.eager(0);
            x.pupil(5, 8, 3, 47);
            x.pass(1);
            x.will(1, 0);
            x.pass(1);
            Check.due("HOURS", x.of(1, 4), 47);
            x.image();
            atItsNumber(x, 1, "pkvshw".charAt(i), values[i]);
        }
    }

    private static void atItsNumber(OneDidAll x, int pupil, char subject, int value) {
        for (int n = Math.max(0, value - 1); n <= Math.min(99, value + 1); n++) {
            looksAt(x, pupil, subject + "<" + n, value < n);
            looksAt(x, pupil, subject + "=" + n, value == n);
            looksAt(x, pupil, subject + ">" + n, value > n);
        }
    }

    private static void looksAt(OneDidAll x, int pupil, String test, boolean holds) {
        x.undo();
        Check.teach(x, "spur 9 " + test);
        Check.due("ZEAL by " + test, x.of(pupil, 6), holds ? 14 : 5);
        x.undo();
    }

    private static void hoursByTen() {
        Says.terms(1, "h its HOURS by 10 (cut)");
        for (int hours : new int[] {0, 1, 9, 10, 11, 19, 20, 98, 99}) {
            OneDidAll x = Rooms.eager(0);
            Rooms.work(x, hours);
            x.image();
            atItsNumber(x, 0, 'h', hours / 10);
        }
        for (int hours : new int[] {980, 989, 990, 999, 1000, 1009}) {
            OneDidAll x = Rooms.eager(0);
            x.will(0, 97);
            x.pass(10);
            Rooms.work(x, hours - 970);
            Check.due("HOURS", x.of(0, 4), hours);
            x.image();
            looksAt(x, 0, "h<99", hours / 10 < 99);
            looksAt(x, 0, "h=99", hours / 10 == 99);
            looksAt(x, 0, "h>98", hours / 10 > 98);
            looksAt(x, 0, "h>99", hours / 10 > 99);
        }
    }

    private static void weekModuloTen() {
        Says.terms(1, "w the WEEK modulo 10");
        for (int week = 0; week <= 21; week++) {
            OneDidAll x = Rooms.eager(0);
            x.pass(week);
            x.image();
            atItsNumber(x, 0, 'w', week % 10);
        }
        OneDidAll y = Rooms.late(0);
        y.image();
        atItsNumber(y, 0, 'w', 9);
    }

    private static void fiveOpen() {
        Says.terms(1, "At most 5 of ! and ( are open (a ( till its ) , a ! till its F ends).");
        for (int open = 4; open <= 5; open++) {
            for (int bits = 0; bits < 1 << open; bits++) {
                StringBuilder ahead = new StringBuilder();
                StringBuilder behind = new StringBuilder();
                for (int i = 0; i < open; i++) {
                    boolean isNot = (bits >> i & 1) == 1;
                    ahead.append(isNot ? '!' : '(');
                    if (!isNot) behind.append(')');
                }
                isClass("spur 1 " + ahead + "p=1" + behind);
                if (open < 5) continue;
                fault("spur 1 " + ahead + "!p=1" + behind, 12);
                fault("spur 1 " + ahead + "(p=1)" + behind, 12);
                fault("spur 1 " + ahead, 12);
                fault("spur 1 " + ahead + "p=1&!", behind.length() == 0 ? 17 : 16 + fifthIsNot(ahead));
            }
        }
    }

    /** Behind a TEST an ! that is the last one opened has ended: one more may be opened then. */
    private static int fifthIsNot(StringBuilder ahead) {
        return ahead.charAt(4) == '!' ? 1 : 0;
    }

    private static void closedOnesAreNotOpen() {
        isClass("spur 1 !!!!!p=1&!!!!!p=1|!!!!!p=1");
        isClass("spur 1 (((((p=1)))))|(((((p=1)))))&(((((p=1)))))");
        isClass("spur 1 !!!!(p=1)&(((((p=1)))))");
        isClass("spur 1 !(!(!p=1))&!(!(!p=1))");
        isClass("spur 1 ((((!p=1|(p=1)|!p=2&(p=3)))))");
        isClass("spur 1 (!(p=1)|!!!!p=1)");
        isClass("spur 1 !!!!!p=1;shirk 1 !!!!!p=1");
        isClass("spur 1 (!!(p=1)&!!!!p=1&(((!p=2))))");
        fault("spur 1 !!!!!p=1&!!!!!!p=1", 21);
        fault("spur 1 (((((p=1)))))|((((((p=1", 26);
        fault("spur 1 !!!!(p=1)&((((((p=1", 22);
        fault("spur 1 ((((!p=1|((p=1", 17);
        fault("spur 1 (!(p=1)|!!!!!p=1)", 19);
        fault("spur 1 !!!!!p=1;shirk 1 !!!!!!p=1", 29);
        fault("spur 1 !(((p=1)|(!!p=1)))", 18);
        fault("spur 1 !((((p=1)|(!p=1))))", 18);
    }

    /** Ever more answers wait for what is in the next ( : an | and an & at each of six levels. */
    private static void deepest() {
        String text = "p=9|p<9&(".repeat(5) + "p=9|p<9&p=1" + ")".repeat(5);
        OneDidAll x = Check.taught("spur 9 " + text);
        x.pupil(0, 0, 1, 0);
        x.pupil(0, 0, 1, 0);
        Check.due("ZEAL of PUPIL 0", x.of(0, 6), 5);
        Check.due("ZEAL of PUPIL 1", x.of(1, 6), 14);
        OneDidAll y = Check.taught("spur 9 " + "p=1|p<9&(".repeat(4) + "p=1|!p=9&p=9" + ")".repeat(4));
        y.pupil(0, 0, 1, 0);
        y.pupil(0, 0, 1, 0);
        Check.due("ZEAL of PUPIL 0", y.of(0, 6), 5);
        Check.due("ZEAL of PUPIL 1", y.of(1, 6), 14);
        OneDidAll z = Check.taught("spur 9 !(p=9|!(p=9|!p=0&p<9)&p<9)&p<9");
        z.pupil(0, 0, 1, 0);
        z.pupil(0, 0, 1, 0);
        Check.due("ZEAL of PUPIL 0", z.of(0, 6), 5);
        Check.due("ZEAL of PUPIL 1", z.of(1, 6), 14);
    }

    private static final String WHOLE = "goal 10;fair 2;spur 34 !(p=1|k<22)&w>9;shirk 5 s=67";

    private static void faultAtEveryPlace() {
        Says.terms(1, "FAULT: the place of the first byte with which no CLASS can go on (the size, if it ends too early).");
        isClass(WHOLE);
        for (int at = 0; at < WHOLE.length(); at++) {
            for (char wrong : new char[] {0, 127, 'x', 'S', '_'}) {
                fault(WHOLE.substring(0, at) + wrong + WHOLE.substring(at + 1), at);
                fault(WHOLE.substring(0, at) + wrong, at);
            }
        }
    }

    private static void faultAtEveryEnd() {
        String ends = " 6 7 14 34 38 50 51 ";
        for (int size = 0; size <= WHOLE.length(); size++) {
            if (ends.contains(" " + size + " ")) isClass(WHOLE.substring(0, size));
            else fault(WHOLE.substring(0, size), size);
        }
    }

    private static void faultOfFullTape() {
        String whole = "goal 10;spur 10 !" + "p=1|".repeat(20);
        fault(whole + "p=;", 99);
        fault(whole + "p=|", 99);
        fault(whole + "pp1", 98);
        fault(whole + "|p=", 97);
        fault("goal 10;spur 10 (" + "p=1|".repeat(20) + "p=1", 100);
        fault("spur 10 !" + "p=1|".repeat(22) + "p<=", 99);
        fault("goal 1;spur 10 " + "p=1|".repeat(21) + "p", 100);
        fault("goal 1;spur 10 " + "p=1|".repeat(21) + ";", 99);
        fault(" ".repeat(100), 0);
    }

    private static void faultAtTheElseOfWords() {
        for (String word : new String[] {"goal 1", "fair 1", "spur 1 p=1", "shirk 1 p=1"}) {
            int letters = word.indexOf(' ');
            for (int at = 0; at < letters; at++) {
                fault(word.substring(0, at), at);
                fault(word.substring(0, at) + word.substring(at + 1), at);
                fault(word.substring(0, at) + Character.toUpperCase(word.charAt(at)) + word.substring(at + 1), at);
            }
        }
        fault("spirk 1 p=1", 2);
        fault("shur 1 p=1", 2);
        fault("gair 1", 1);
        fault("foal 1", 1);
        fault("sour 1 p=1", 1);
    }

    private static void fiveClasses() {
        Says.terms(1, "CLASSES are numbered from 0 on, 5 at most; the newest one holds; without one there are no CLAUSES.");
        OneDidAll x = new OneDidAll();
        x.pupil(0, 0, 1, 0);
        Check.due("ZEAL without", x.of(0, 6), 5);
        for (int n = 0; n < 5; n++) {
            Check.due("count(1)", x.count(1), n);
            Check.due("school() number " + n, Check.teach(x, "goal " + (n + 70) + ";spur " + (n + 1) + " p=0"), n);
            Check.due("told(2)", x.told(2), n + 70);
            Check.due("ZEAL", x.of(0, 6), n + 6);
            Check.due("school() of a FAULT", n < 4 ? Check.teach(x, "goal;") : -14, -14);
            Check.due("told(2)", x.told(2), n + 70);
        }
        Check.due("the 6th", Check.teach(x, "goal 1"), FULL);
        Check.due("count(1)", x.count(1), 5);
        Check.due("told(2)", x.told(2), 74);
        Check.due("ZEAL", x.of(0, 6), 10);
    }

    private static void goalAndFair() {
        Says.terms(1, "GOAL (60 without; 1 if less), FAIR (2 without): the last n.");
        OneDidAll x = new OneDidAll();
        goalAndFairAre(x, 60, 2);
        Check.teach(x, "spur 1 p=0");
        goalAndFairAre(x, 60, 2);
        Check.teach(x, "goal 0");
        goalAndFairAre(x, 1, 2);
        Check.teach(x, "goal 1;fair 0");
        goalAndFairAre(x, 1, 0);
        Check.teach(x, "goal 2;fair 1");
        goalAndFairAre(x, 2, 1);
        Check.teach(x, "goal 99;fair 99;spur 1 p=0;goal 3;fair 4;shirk 1 p=0");
        goalAndFairAre(x, 3, 4);
        OneDidAll y = Check.taught("goal 5;goal 0;fair 3;fair 0");
        goalAndFairAre(y, 1, 0);
        Check.teach(y, "goal 0;goal 7;fair 0;fair 9");
        goalAndFairAre(y, 7, 9);
        Check.teach(y, "goal 99");
        goalAndFairAre(y, 99, 2);
        Check.teach(y, "fair 99");
        goalAndFairAre(y, 60, 99);
    }

    private static void goalAndFairAre(OneDidAll x, int goal, int fair) {
        Check.due("told(2)", x.told(2), goal);
        Check.due("told(3)", x.told(3), fair);
    }
}
