/** Terms 3, and what each promise refuses: which refusal is told first, and that nothing is changed by it. */
public final class TermsThreeTest {
    private static final int NONE = -1, BAD = -2, STATE = -3, FULL = -4;
    private static final long NO = Long.MIN_VALUE;
    private static final int LEAST = Integer.MIN_VALUE, MOST = Integer.MAX_VALUE;
    private static final Twin.Made[] ROOMS = {Rooms::empty, Rooms::some, Rooms::full};

    public static void main(String[] args) {
        Says.terms(3, "REFUSALS, of several the first one told: NONE there is no such PUPIL, KIND, RULE, what, part, k, i; "
            + "BAD a number is not as told; STATE as told; FULL. They change nothing.");
        for (Twin.Made room : ROOMS) noSuchPupil(room);
        for (Twin.Made room : ROOMS) noSuchWhat(room);
        for (Twin.Made room : ROOMS) badNumbers(room);
        badNumbersOfOne();
        noneAheadOfBad();
        badAheadOfState();
        states();
        badAheadOfFull();
        fulls();
        fullSchool();
        numbersAndLongs();
        asksChangeNothing();
        Check.end();
    }

    private static void refused(String call, Twin.Made room, Twin.Ask ask, long due) {
        Twin.changesNothing(call, room, ask, due);
    }

    private static void noSuchPupil(Twin.Made room) {
        int size = room.make().count(0);
        for (int p : new int[] {LEAST, -2, -1, size, size + 1, 6, 7, MOST}) {
            refused("of(" + p + ", 0) of " + size, room, x -> x.of(p, 0), NONE);
            refused("row(" + p + ", 0, 0) of " + size, room, x -> x.row(p, 0, 0), NONE);
            refused("will(" + p + ", 0) of " + size, room, x -> x.will(p, 0), NONE);
            refused("out(" + p + ", true) of " + size, room, x -> x.out(p, true), NONE);
            refused("out(" + p + ", false) of " + size, room, x -> x.out(p, false), NONE);
            refused("mark(" + p + ", 0) of " + size, room, x -> x.mark(p, 0), NONE);
            refused("alone(" + p + ") of " + size, room, x -> x.alone(p), NONE);
            refused("part(" + p + ", 0) of " + size, room, x -> x.part(p, 0), NO);
            refused("part(" + p + ", 1) of " + size, room, x -> x.part(p, 1), NO);
            for (int what = 0; what < 2; what++) {
                int w = what;
                refused("skilled(" + p + ", " + w + ") of " + size, room, x -> x.skilled(p, w), NONE);
                refused("firm(" + p + ", " + w + ") of " + size, room, x -> x.firm(p, w), NONE);
            }
            for (int what = 1; what < 4; what++) {
                int w = what;
                refused("plan(" + w + ", " + p + ") of " + size, room, x -> x.plan(w, p), NONE);
            }
            refused("as(" + p + ", 0) of " + size, room, x -> x.as(p, 0), NONE);
            if (p != -1) refused("book(" + p + ", 0) of " + size, room, x -> x.book(p, 0), NONE);
        }
        for (int p = size; p < 10; p++) {
            int hours = 10 + p;
            int will = 20 + p;
            refused("on(1, " + hours + ") of " + size, room, x -> x.on(1, hours), NONE);
            refused("on(1, " + will + ") of " + size, room, x -> x.on(1, will), NONE);
        }
    }

    private static void noSuchWhat(Twin.Made room) {
        for (int w : new int[] {LEAST, -1, 2, MOST}) {
            refused("team(1, " + w + ")", room, x -> x.team(1, w), NONE);
            refused("split(" + w + ")", room, x -> x.split(w), NONE);
            refused("done(" + w + ")", room, x -> x.done(w), NONE);
            refused("skilled(0, " + w + ")", room, x -> x.skilled(0, w), NONE);
            refused("firm(0, " + w + ")", room, x -> x.firm(0, w), NONE);
            refused("part(0, " + w + ")", room, x -> x.part(0, w), NO);
            refused("odds(1, 1, " + w + ")", room, x -> x.odds(1, 1, w), NO);
            refused("mean(1, " + w + ")", room, x -> x.mean(1, w), NO);
            refused("on(1, " + w + ")", room, x -> x.on(1, w), NONE);
        }
        for (int w : new int[] {LEAST, -1, 4, MOST}) {
            refused("mark(0, " + w + ")", room, x -> x.mark(0, w), NONE);
            refused("spread(" + w + ")", room, x -> x.spread(w), NONE);
            refused("row(0, " + w + ", 0)", room, x -> x.row(0, w, 0), NONE);
            if (w != -1) refused("plan(" + w + ", 0)", room, x -> x.plan(w, 0), NONE);
        }
        refused("plan(-2, 0)", room, x -> x.plan(-2, 0), NONE);
        for (int w : new int[] {LEAST, -1, 7, MOST}) {
            refused("pupil(" + w + ", 0, 1, 0)", room, x -> x.pupil(w, 0, 1, 0), NONE);
            refused("told(" + w + ")", room, x -> x.told(w), NONE);
            refused("as(0, " + w + ")", room, x -> x.as(0, w), NONE);
            refused("count(" + w + ")", room, x -> x.count(w), NONE);
        }
        for (int w : new int[] {LEAST, -1, 10, MOST}) refused("of(0, " + w + ")", room, x -> x.of(0, w), NONE);
        for (int w : new int[] {9, 19, 26, 30}) refused("on(1, " + w + ")", room, x -> x.on(1, w), NONE);
        for (int i : new int[] {LEAST, -1, 7, 20, 21, MOST}) refused("trace(" + i + ")", room, x -> x.trace(i), NONE);
    }

    private static void badNumbers(Twin.Made room) {
        for (int n : new int[] {LEAST, -1, 128, MOST}) refused("feed(" + n + ")", room, x -> x.feed(n), BAD);
        for (int v : new int[] {LEAST, -1, 10, MOST}) refused("pupil(0, " + v + ", 1, 0)", room, x -> x.pupil(0, v, 1, 0), BAD);
        for (int s : new int[] {LEAST, -1, 0, 10, MOST}) refused("pupil(0, 0, " + s + ", 0)", room, x -> x.pupil(0, 0, s, 0), BAD);
        for (int w : new int[] {LEAST, -1, 100, MOST}) refused("pupil(0, 0, 1, " + w + ")", room, x -> x.pupil(0, 0, 1, w), BAD);
        for (int n : new int[] {LEAST, -1, 61, MOST}) {
            refused("pass(" + n + ")", room, x -> x.pass(n), BAD);
            refused("on(" + n + ", 0)", room, x -> x.on(n, 0), BAD);
            refused("on(" + n + ", 1)", room, x -> x.on(n, 1), BAD);
            refused("odds(" + n + ", 0, 0)", room, x -> x.odds(n, 0, 0), NO);
            refused("mean(" + n + ", 0)", room, x -> x.mean(n, 0), NO);
        }
        for (int k : new int[] {LEAST, -1, 0, 7, MOST}) refused("team(" + k + ", 0)", room, x -> x.team(k, 0), BAD);
        for (int n : new int[] {LEAST, -2, 100000, MOST}) refused("see(" + n + ", 0)", room, x -> x.see(n, 0), BAD);
        for (int n : new int[] {LEAST, -1, 21, MOST}) refused("see(0, " + n + ")", room, x -> x.see(0, n), BAD);
        for (int m : new int[] {LEAST, -1, 100000, MOST}) refused("odds(0, " + m + ", 0)", room, x -> x.odds(0, m, 0), NO);
    }

    private static void badNumbersOfOne() {
        for (Twin.Made room : new Twin.Made[] {Rooms::some, Rooms::full}) {
            for (int n : new int[] {LEAST, -1, 10, MOST}) refused("row(0, 0, " + n + ")", room, x -> x.row(0, 0, n), BAD);
            for (int n : new int[] {LEAST, -1, 100, MOST}) refused("will(0, " + n + ")", room, x -> x.will(0, n), BAD);
            for (int n : new int[] {LEAST, -1, 10000, MOST}) refused("book(0, " + n + ")", room, x -> x.book(0, n), BAD);
            for (int n : new int[] {LEAST, -1, 61, MOST}) {
                refused("on(" + n + ", 10)", room, x -> x.on(n, 10), BAD);
                refused("on(" + n + ", 20)", room, x -> x.on(n, 20), BAD);
            }
        }
    }

    private static void noneAheadOfBad() {
        Twin.Made full = Rooms::full;
        refused("pupil(7, 10, 0, 100) when full", full, x -> x.pupil(7, 10, 0, 100), NONE);
        refused("pupil(-1, 0, 1, 0) when full", full, x -> x.pupil(-1, 0, 1, 0), NONE);
        refused("row(6, 0, 10)", full, x -> x.row(6, 0, 10), NONE);
        refused("row(0, 4, 10)", full, x -> x.row(0, 4, 10), NONE);
        refused("row(1, 4, 10) of another KIND", full, x -> x.row(1, 4, 10), NONE);
        refused("row(1, 4, 0) of another KIND", full, x -> x.row(1, 4, 0), NONE);
        refused("row(1, -1, 0) of another KIND", full, x -> x.row(1, -1, 0), NONE);
        refused("will(6, 100)", full, x -> x.will(6, 100), NONE);
        refused("on(61, 2)", full, x -> x.on(61, 2), NONE);
        refused("on(-1, 16)", full, x -> x.on(-1, 16), NONE);
        refused("on(61, 26)", full, x -> x.on(61, 26), NONE);
        refused("team(0, 2)", full, x -> x.team(0, 2), NONE);
        refused("team(7, -1)", full, x -> x.team(7, -1), NONE);
        refused("book(6, 10000) when full", full, x -> x.book(6, 10000), NONE);
        refused("book(6, 0) when full", full, x -> x.book(6, 0), NONE);
        refused("plan(4, 0) when full", full, x -> x.plan(4, 0), NONE);
        refused("plan(1, 6) when full", full, x -> x.plan(1, 6), NONE);
    }

    private static void badAheadOfState() {
        refused("row(1, 0, 10) of another KIND", Rooms::full, x -> x.row(1, 0, 10), BAD);
        refused("row(1, 0, -1) of another KIND", Rooms::full, x -> x.row(1, 0, -1), BAD);
        refused("pass(61) in WEEK 9999", () -> Rooms.late(0), x -> x.pass(61), BAD);
        refused("pass(-1) in WEEK 9999", () -> Rooms.late(0), x -> x.pass(-1), BAD);
        refused("pass(greatest) in WEEK 9999", () -> Rooms.late(0), x -> x.pass(MOST), BAD);
    }

    private static void states() {
        for (int p : new int[] {1, 2, 3, 4, 5}) {
            int pupil = p;
            refused("row(" + p + ", 0, 1) of another KIND", Rooms::full, x -> x.row(pupil, 0, 1), STATE);
        }
        refused("row(0, 0, 1) of an IDLE one", () -> Rooms.eager(2), x -> x.row(0, 0, 1), STATE);
        refused("undo() without an image", Rooms::fullTape, x -> x.undo(), STATE);
        refused("undo() without an image", Rooms::empty, x -> x.undo(), STATE);
        refused("pass(1) in WEEK 9999", () -> Rooms.late(0), x -> x.pass(1), STATE);
        refused("pass(60) in WEEK 9999", () -> Rooms.late(0), x -> x.pass(60), STATE);
        refused("pass(2) in WEEK 9998", () -> Rooms.late(1), x -> x.pass(2), STATE);
        refused("pass(60) in WEEK 9940", () -> Rooms.late(59), x -> x.pass(60), STATE);
    }

    private static void badAheadOfFull() {
        Twin.Made full = Rooms::full;
        refused("feed(128) when full", full, x -> x.feed(128), BAD);
        refused("feed(-1) when full", Rooms::fullTape, x -> x.feed(-1), BAD);
        refused("pupil(0, 10, 1, 0) when full", full, x -> x.pupil(0, 10, 1, 0), BAD);
        refused("pupil(6, 0, 0, 0) when full", full, x -> x.pupil(6, 0, 0, 0), BAD);
        refused("pupil(6, 0, 1, 100) when full", full, x -> x.pupil(6, 0, 1, 100), BAD);
        refused("see(100000, 0) when full", full, x -> x.see(100000, 0), BAD);
        refused("see(0, 21) when full", full, x -> x.see(0, 21), BAD);
        refused("book(0, 10000) when full", full, x -> x.book(0, 10000), BAD);
        refused("book(0, -1) when full", full, x -> x.book(0, -1), BAD);
    }

    private static void fulls() {
        refused("feed(0), the 101st", Rooms::full, x -> x.feed(0), FULL);
        refused("feed(127), the 101st", Rooms::fullTape, x -> x.feed(127), FULL);
        for (int kind = 0; kind < 7; kind++) {
            int k = kind;
            refused("pupil(" + k + ", 0, 1, 0), the 7th", Rooms::full, x -> x.pupil(k, 0, 1, 0), FULL);
        }
        refused("see(0, 0), the 6th", Rooms::full, x -> x.see(0, 0), FULL);
        refused("see(99999, 20), the 6th", Rooms::full, x -> x.see(99999, 20), FULL);
        refused("plan(0, 0), the 9th", Rooms::full, x -> x.plan(0, 0), FULL);
        refused("plan(0, 6), the 9th: the other is not looked at", Rooms::full, x -> x.plan(0, 6), FULL);
        for (int what = 1; what < 4; what++) {
            int w = what;
            refused("plan(" + w + ", 5), the 9th", Rooms::full, x -> x.plan(w, 5), FULL);
        }
        refused("book(0, 0), the 9th", Rooms::full, x -> x.book(0, 0), FULL);
        refused("book(5, 9999), the 9th", Rooms::full, x -> x.book(5, 9999), FULL);
    }

    private static void fullSchool() {
        refused("school(), the 6th, of a FAULT", Rooms::full, x -> x.school(), FULL);
        refused("school(), the 6th, of an empty tape", () -> fiveClasses(""), x -> x.school(), FULL);
        refused("school(), the 6th, of a class", () -> fiveClasses("goal 9"), x -> x.school(), FULL);
        OneDidAll x = fiveClasses("goal 9");
        x.school();
        Check.due("count(5): THE TAPE stays", x.count(5), 6);
        Check.due("feed(57): behind it", x.feed(57), 7);
        x.undo();
        Check.due("count(1) by the image of four classes", x.count(1), 4);
        Check.feedAll(x, "fair 7");
        Check.due("school(), the 5th", x.school(), 4);
    }

    private static OneDidAll fiveClasses(String tape) {
        OneDidAll x = new OneDidAll();
        for (int n = 0; n < 5; n++) {
            if (n == 4) x.image();
            Check.teach(x, "fair " + n);
        }
        Check.feedAll(x, tape);
        return x;
    }

    /** Where an answer is a long, every refusal is NO. */
    private static void numbersAndLongs() {
        Check.due("the constant NO", OneDidAll.NO, NO);
        refused("part(6, 2)", Rooms::full, x -> x.part(6, 2), NO);
        refused("odds(61, 100000, 2)", Rooms::full, x -> x.odds(61, 100000, 2), NO);
        refused("mean(61, 2)", Rooms::full, x -> x.mean(61, 2), NO);
        refused("odds(0, 0, 0) without PUPILS", Rooms::empty, x -> x.odds(0, 0, 0), NO);
        refused("odds(0, 0, 1) without PUPILS", Rooms::empty, x -> x.odds(0, 0, 1), NO);
        refused("mean(0, 0) without PUPILS", Rooms::empty, x -> x.mean(0, 0), NO);
        refused("mean(0, 1) without PUPILS", Rooms::empty, x -> x.mean(0, 1), NO);
    }

    private static void asksChangeNothing() {
        Says.terms(2, "All that follows is asked, goes on from how all is (WEEK beyond 9999, HOURS, WORK not held), and changes nothing.");
        for (Twin.Made room : ROOMS) {
            for (int n : new int[] {0, 1, 60}) {
                OneDidAll one = room.make();
                for (int what = 0; what < 27; what++) one.on(n, what);
                Twin.same("on(" + n + ", ..)", one, room.make());
            }
            OneDidAll one = room.make();
            one.ready();
            for (int rule = 0; rule < 4; rule++) one.spread(rule);
            one.nearest();
            one.throwOut();
            for (int k = 1; k <= 6; k++) one.team(k, k % 2);
            one.split(0);
            one.split(1);
            one.done(0);
            one.done(1);
            one.looked();
            Twin.same("rules, groups, plans asked", one, room.make());
            OneDidAll other = room.make();
            for (int p = 0; p < 6; p++) {
                other.alone(p);
                other.part(p, p % 2);
                other.skilled(p, p % 2);
                other.firm(p, p % 2);
                other.mark(p, p % 4);
                other.as(p, p);
                other.odds(60, 100 * p, p % 2);
                other.mean(10 * p, p % 2);
            }
            Twin.same("those of one asked", other, room.make());
        }
    }
}
