/**
 * Pupils who make one poster together: who does how much week by week, who claims and gets what,
 * and what would be if others did it. The promises are told in DOC.md; README.md is the way in.
 *
 * The public methods refuse what is to be refused, in the order NONE, BAD, STATE, FULL; the classes
 * inside are called with looked-at numbers alone. All rows are made once and used again.
 */
public final class OneDidAll {
    public static final int NONE = -1, BAD = -2, STATE = -3, FULL = -4;
    public static final long NO = Long.MIN_VALUE;

    private static final int NOTHING = -5;
    private static final int OTHER_KIND = -6;
    private static final int FAULT_AT_START = -10;

    private static final int MOST_PUPILS = 6;
    private static final int MOST_SIGNS = 100;
    private static final int MOST_LESSONS = 5;
    private static final int MOST_CLAUSES = 10;
    private static final int MOST_OPEN = 5;
    private static final int MOST_SEEN = 5;
    private static final int MOST_ROWS = 8;
    private static final int MOST_KEPT = 20;

    private static final int MOST_WILL = 99;
    private static final int MOST_HOURS = 9999;
    private static final int MOST_WORK = 99999;
    private static final int MOST_WEEK = 9999;
    private static final int MOST_WEEKS = 60;
    private static final int MOST_SEEN_WEEKS = 20;
    private static final int MOST_SKILL = 9;
    private static final int ROW = 4;

    private static final int PUPIL = 0, KEEN = 1, IDLE = 2, BOASTER = 3, LEADER = 4, SHY = 5, TOLD = 6;
    private static final int[] KIND_ABOVE = {-1, PUPIL, PUPIL, PUPIL, KEEN, IDLE, BOASTER};
    private static final int RULES = 4;

    private static final int[] FACTORIALS = {1, 1, 2, 6, 24, 120, 720};

    private final Room now = new Room();
    private final Room image = new Room();
    private boolean imageIsTaken = false;
    private final Forecast forecast = new Forecast();
    private final Acts acts = new Acts();

    public OneDidAll() {
    }

    // ---- classes, pupils

    public int feed(int sign) {
        if (sign < 0 || sign > 127) return BAD;
        if (now.signs >= MOST_SIGNS) return FULL;
        now.tape[now.signs] = (byte) sign;
        now.signs++;
        return now.signs;
    }

    public int school() {
        if (now.lessonCount >= MOST_LESSONS) return FULL;
        Reader reader = new Reader(now.tape, now.signs);
        boolean isRead = reader.readLesson();
        now.signs = 0;
        if (!isRead) return FAULT_AT_START - reader.place;
        now.lessons[now.lessonCount] = reader.lesson;
        now.lessonCount++;
        return now.lessonCount - 1;
    }

    public int pupil(int kind, int v, int skill, int will) {
        if (!isKind(kind)) return NONE;
        if (v < 0 || v > 9 || skill < 1 || skill > MOST_SKILL || will < 0 || will > MOST_WILL) return BAD;
        if (now.group.size >= MOST_PUPILS) return FULL;
        return now.group.add(kind, v, skill, will);
    }

    public int of(int pupil, int what) {
        if (!isPupil(pupil)) return NONE;
        Group group = now.group;
        switch (what) {
            case 0: return group.kinds[pupil];
            case 1: return group.vs[pupil];
            case 2: return group.skills[pupil];
            case 3: return group.wills[pupil];
            case 4: return group.hours[pupil];
            case 5: return group.outs[pupil] ? 1 : 0;
            case 6: return now.lesson().zealOf(group, pupil);
            case 7: return group.doesOf(pupil, now.lesson());
            case 8: return group.shareOf(pupil);
            case 9: return group.claimOf(pupil);
            default: return NONE;
        }
    }

    public int row(int pupil, int k, int n) {
        if (!isPupil(pupil) || k < 0 || k >= ROW) return NONE;
        if (n < 0 || n > 9) return BAD;
        if (now.group.kinds[pupil] != TOLD) return STATE;
        int place = pupil * ROW + k;
        int before = now.group.rows[place];
        now.group.rows[place] = n;
        return before;
    }

    public int will(int pupil, int n) {
        if (!isPupil(pupil)) return NONE;
        if (n < 0 || n > MOST_WILL) return BAD;
        int before = now.group.wills[pupil];
        now.group.wills[pupil] = n;
        return before;
    }

    public int out(int pupil, boolean is) {
        if (!isPupil(pupil)) return NONE;
        boolean before = now.group.outs[pupil];
        now.group.outs[pupil] = is;
        return before ? 1 : 0;
    }

    public int told(int what) {
        switch (what) {
            case 0: return now.group.week;
            case 1: return now.group.work;
            case 2: return now.lesson().goal();
            case 3: return now.lesson().fair;
            case 4: return now.group.hoursOfAll();
            case 5: return now.group.claimsOfAll();
            case 6: return now.group.base(now.lesson().goal());
            default: return NONE;
        }
    }

    public int mark(int pupil, int rule) {
        if (!isPupil(pupil) || !isRule(rule)) return NONE;
        return now.group.markOf(pupil, rule, now.lesson().goal());
    }

    public int pass(int n) {
        if (n < 0 || n > MOST_WEEKS) return BAD;
        if (now.group.week + n > MOST_WEEK) return STATE;
        now.group.goWeeks(now.lesson(), n, true);
        return now.group.work;
    }

    // ---- weeks to come, rules

    public int on(int n, int what) {
        boolean isHours = what >= 10 && isPupil(what - 10);
        boolean isWill = what >= 20 && isPupil(what - 20);
        if (what != 0 && what != 1 && !isHours && !isWill) return NONE;
        if (n < 0 || n > MOST_WEEKS) return BAD;
        forecast.begin(now);
        forecast.go(n);
        if (isHours) return forecast.hoursMoreOf(what - 10);
        if (isWill) return forecast.trial.wills[what - 20];
        return what == 0 ? forecast.workMore() : forecast.hoursMore();
    }

    public int ready() {
        int goal = now.lesson().goal();
        forecast.begin(now);
        for (int weeks = 0; weeks <= MOST_WEEKS; weeks++) {
            if (forecast.trial.work >= goal) return weeks;
            forecast.go(1);
        }
        return NOTHING;
    }

    public int spread(int rule) {
        if (!isRule(rule)) return NONE;
        return now.group.spreadOf(rule, now.lesson().goal());
    }

    public int nearest() {
        Group group = now.group;
        int goal = now.lesson().goal();
        int best = 0;
        if (group.awayFromHours(2, goal) < group.awayFromHours(best, goal)) best = 2;
        if (group.awayFromHours(3, goal) < group.awayFromHours(best, goal)) best = 3;
        return best;
    }

    // ---- groups; part 0 above, 1 below the line

    public int throwOut() {
        forecast.begin(now);
        forecast.go(20);
        int most = forecast.workMore();
        int thrown = NOTHING;
        for (int p = 0; p < now.group.size; p++) {
            if (now.group.outs[p]) continue;
            forecast.beginWithout(now, p);
            forecast.go(20);
            if (forecast.workMore() > most) {
                most = forecast.workMore();
                thrown = p;
            }
        }
        return thrown;
    }

    public int alone(int pupil) {
        if (!isPupil(pupil)) return NONE;
        return forecast.workOf(now, 1 << pupil, 20);
    }

    public int team(int k, int what) {
        if (what != 0 && what != 1) return NONE;
        if (k < 1 || k > MOST_PUPILS) return BAD;
        if (k > now.group.size) return NOTHING;
        int most = -1;
        int best = 0;
        for (int set = 0; set < 1 << now.group.size; set++) {
            if (Integer.bitCount(set) != k) continue;
            int work = forecast.workOf(now, set, 10);
            if (work > most) {
                most = work;
                best = set;
            }
        }
        return what == 0 ? best : most;
    }

    public int split(int what) {
        if (what != 0 && what != 1) return NONE;
        if (now.group.size < 2) return NOTHING;
        int all = (1 << now.group.size) - 1;
        int least = 0;
        int best = 0;
        // Odd sets are those with PUPIL 0; all of them would leave nobody to the other set.
        for (int set = 1; set < all; set += 2) {
            int far = Math.abs(forecast.workOf(now, set, 10) - forecast.workOf(now, all - set, 10));
            if (best == 0 || far < least) {
                least = far;
                best = set;
            }
        }
        return what == 0 ? best : least;
    }

    public long part(int pupil, int part) {
        if (!isPupil(pupil) || !isPart(part)) return NO;
        int size = now.group.size;
        if (size >= FACTORIALS.length) return NO;
        long above = 0;
        for (int set = 0; set < 1 << size; set++) {
            int with = set | 1 << pupil;
            int others = Integer.bitCount(set);
            if (with == set || others >= size) continue;
            // So many of the orders have just this set ahead of the pupil.
            long orders = (long) FACTORIALS[others] * FACTORIALS[size - 1 - others];
            above += orders * (forecast.workOf(now, with, 5) - forecast.workOf(now, set, 5));
        }
        return inLowestTerms(above, FACTORIALS[size], part);
    }

    // ---- seen, odds

    public int see(int work, int n) {
        if (work == -1) return now.seen.clear();
        if (work < 0 || work > MOST_WORK || n < 0 || n > MOST_SEEN_WEEKS) return BAD;
        if (now.seen.isFull()) return FULL;
        return now.seen.add(work, n);
    }

    public int skilled(int pupil, int what) {
        if (!isPupil(pupil) || (what != 0 && what != 1)) return NONE;
        int fitting = 0;
        for (int skill = 1; skill <= MOST_SKILL; skill++) {
            forecast.begin(now);
            forecast.trial.skills[pupil] = skill;
            if (forecast.meets(now.seen)) fitting |= 1 << skill;
        }
        return what == 0 ? Integer.bitCount(fitting) : leastOf(fitting);
    }

    public int firm(int pupil, int what) {
        if (!isPupil(pupil) || (what != 0 && what != 1)) return NONE;
        int fitting = 0;
        for (int v = 0; v <= 9; v++) {
            forecast.begin(now);
            forecast.trial.vs[pupil] = v;
            if (forecast.meets(now.seen)) fitting |= 1 << v;
        }
        return what == 0 ? Integer.bitCount(fitting) : leastOf(fitting);
    }

    public long odds(int n, int m, int part) {
        if (n < 0 || n > MOST_WEEKS || m < 0 || m > MOST_WORK || !isPart(part)) return NO;
        if (now.group.size == 0) return NO;
        int likely = 0;
        for (int p = 0; p < now.group.size; p++) {
            forecast.beginWithout(now, p);
            forecast.go(n);
            if (forecast.workMore() >= m) likely++;
        }
        return inLowestTerms(likely, now.group.size, part);
    }

    public long mean(int n, int part) {
        if (n < 0 || n > MOST_WEEKS || !isPart(part)) return NO;
        if (now.group.size == 0) return NO;
        forecast.begin(now);
        forecast.go(n);
        return inLowestTerms(forecast.hoursMore(), now.group.size, part);
    }

    // ---- plans, books

    public int plan(int what, int pupil) {
        if (what == -1) return now.plan.clear();
        if (what < 0 || what > 3) return NONE;
        if (what != 0 && !isPupil(pupil)) return NONE;
        if (now.plan.isFull()) return FULL;
        return now.plan.add(what, pupil);
    }

    public int done(int what) {
        if (what != 0 && what != 1) return NONE;
        forecast.begin(now);
        forecast.follow(now.plan);
        return what == 0 ? forecast.workMore() : forecast.hoursMore();
    }

    public int book(int pupil, int hours) {
        if (pupil == -1) return now.book.clear();
        if (!isPupil(pupil)) return NONE;
        if (hours < 0 || hours > MOST_HOURS) return BAD;
        if (now.book.isFull()) return FULL;
        return now.book.add(pupil, hours);
    }

    public int looked() {
        for (int i = 0; i < now.book.size; i++) {
            int pupil = now.book.firsts[i];
            if (isPupil(pupil) && now.group.hours[pupil] != now.book.seconds[i]) return i;
        }
        return NOTHING;
    }

    // ---- acts, the image

    public int act(int pupil, int act, int x) {
        acts.ran = 0;
        if (!isPupil(pupil)) return 0;
        acts.kind = now.group.kinds[pupil];
        acts.v = now.group.vs[pupil];
        acts.i = pupil;
        switch (act) {
            case 0: return acts.thinks(acts.kind, x, 0);
            case 1: return acts.writes(acts.kind, x, 0);
            case 2: return acts.tells(acts.kind, x, 0);
            default: return 0;
        }
    }

    public int trace(int i) {
        if (i < 0 || i >= acts.ran || i >= MOST_KEPT) return NONE;
        return acts.kept[i];
    }

    public int as(int pupil, int k) {
        if (!isPupil(pupil) || !isKind(k)) return NONE;
        return isUnder(now.group.kinds[pupil], k) ? now.group.vs[pupil] : OTHER_KIND;
    }

    public int image() {
        image.copyFrom(now);
        imageIsTaken = true;
        return now.group.size;
    }

    public int undo() {
        if (!imageIsTaken) return STATE;
        now.copyFrom(image);
        return now.group.size;
    }

    public int count(int what) {
        switch (what) {
            case 0: return now.group.size;
            case 1: return now.lessonCount;
            case 2: return now.seen.size;
            case 3: return now.plan.size;
            case 4: return now.book.size;
            case 5: return now.signs;
            case 6: return acts.ran;
            default: return NONE;
        }
    }

    // ---- what is looked at ahead of an answer

    private boolean isPupil(int pupil) {
        return pupil >= 0 && pupil < now.group.size && pupil < MOST_PUPILS;
    }

    private static boolean isKind(int kind) {
        return kind >= 0 && kind < KIND_ABOVE.length;
    }

    private static boolean isRule(int rule) {
        return rule >= 0 && rule < RULES;
    }

    private static boolean isPart(int part) {
        return part == 0 || part == 1;
    }

    /** Whether a KIND is another, or one under it. */
    private static boolean isUnder(int kind, int above) {
        int at = kind;
        for (int steps = 0; steps < KIND_ABOVE.length && isKind(at); steps++) {
            if (at == above) return true;
            at = KIND_ABOVE[at];
        }
        return false;
    }

    /** The least number (0 .. 9) whose bit is set. */
    private static int leastOf(int bits) {
        for (int n = 0; n <= 9; n++) {
            if ((bits >> n & 1) == 1) return n;
        }
        return NOTHING;
    }

    private static long inLowestTerms(long above, long below, int part) {
        long a = Math.abs(above);
        long b = below;
        // Euclid's steps: two longs never need more than some ninety.
        for (int steps = 0; steps < 100 && b != 0; steps++) {
            long rest = a % b;
            a = b;
            b = rest;
        }
        if (a == 0) return NO;
        return (part == 0 ? above : below) / a;
    }

    /** All that there is and that THE IMAGE keeps. */
    private static final class Room {
        private final Group group = new Group();
        private final byte[] tape = new byte[MOST_SIGNS];
        private int signs = 0;
        private final Lesson[] lessons = new Lesson[MOST_LESSONS];
        private int lessonCount = 0;
        private final Lesson none = new Lesson();
        private final Rows seen = new Rows(MOST_SEEN);
        private final Rows plan = new Rows(MOST_ROWS);
        private final Rows book = new Rows(MOST_ROWS);

        /** The class that holds: the newest one; without one, a class without clauses. */
        Lesson lesson() {
            if (lessonCount < 1 || lessonCount > MOST_LESSONS) return none;
            Lesson newest = lessons[lessonCount - 1];
            return newest == null ? none : newest;
        }

        void copyFrom(Room other) {
            group.copyFrom(other.group);
            System.arraycopy(other.tape, 0, tape, 0, MOST_SIGNS);
            signs = other.signs;
            // A class never changes once it is read, so both rooms may hold the same one.
            for (int i = 0; i < MOST_LESSONS; i++) lessons[i] = other.lessons[i];
            lessonCount = other.lessonCount;
            seen.copyFrom(other.seen);
            plan.copyFrom(other.plan);
            book.copyFrom(other.book);
        }
    }

    /** Rows of two numbers each, told by hand: what is SEEN, the PLAN, BOOK. */
    private static final class Rows {
        private final int[] firsts;
        private final int[] seconds;
        private int size = 0;

        Rows(int most) {
            int length = Math.max(0, most);
            firsts = new int[length];
            seconds = new int[length];
        }

        boolean isFull() {
            return size >= firsts.length || size >= seconds.length;
        }

        /** How many rows there are then. */
        int add(int first, int second) {
            if (!isFull()) {
                firsts[size] = first;
                seconds[size] = second;
                size++;
            }
            return size;
        }

        /** None are left: 0. */
        int clear() {
            size = 0;
            return size;
        }

        void copyFrom(Rows other) {
            size = 0;
            for (int i = 0; i < other.size; i++) add(other.firsts[i], other.seconds[i]);
        }
    }

    /**
     * What a CLASS says. The E of each spur and shirk stands in code, parts ahead of what joins
     * them, so that it is looked at from left to right with the open answers as bits of one int:
     * with five open ! and ( these are thirteen at most.
     */
    private static final class Lesson {
        private static final int NOT = -1, AND = -2, OR = -3;
        private static final int NUMBERS = 100, RELATIONS = 3;

        private final int[] code = new int[MOST_SIGNS];
        private int codes = 0;
        private final int[] worths = new int[MOST_CLAUSES];
        private final int[] ends = new int[MOST_CLAUSES];
        private int spurs = 0;
        private int toldGoal = 60;
        private int fair = 2;

        int goal() {
            return Math.max(1, toldGoal);
        }

        /** Every code is read from a sign of its own at least, so there is room for all. */
        void addCode(int one) {
            if (codes >= code.length) return;
            code[codes] = one;
            codes++;
        }

        void addTest(int subject, int relation, int number) {
            addCode((subject * RELATIONS + relation) * NUMBERS + number);
        }

        /** The codes since the one before are the E of a spur worth so much (below 0: a shirk). */
        void addSpur(int worth) {
            if (spurs >= worths.length || spurs >= ends.length) return;
            worths[spurs] = worth;
            ends[spurs] = codes;
            spurs++;
        }

        int zealOf(Group group, int pupil) {
            int zeal = 5;
            int at = 0;
            for (int i = 0; i < spurs; i++) {
                int answers = 0;
                for (; at < ends[i] && at < code.length; at++) {
                    answers = look(answers, code[at], group, pupil);
                }
                if ((answers & 1) == 1) zeal += worths[i];
            }
            return Math.max(0, zeal);
        }

        private static int look(int answers, int one, Group group, int pupil) {
            int last = answers & 1;
            int others = answers >> 1;
            switch (one) {
                case NOT: return answers ^ 1;
                case AND: return last == 1 ? others : others & ~1;
                case OR: return others | last;
                default: break;
            }
            int number = one % NUMBERS;
            int relation = one / NUMBERS % RELATIONS;
            int value = group.subjectOf(pupil, one / NUMBERS / RELATIONS);
            boolean holds = relation == 0 ? value < number : relation == 1 ? value == number : value > number;
            return answers << 1 | (holds ? 1 : 0);
        }
    }

    /** Reads a CLASS from THE TAPE; where it stops without one is the FAULT. */
    private static final class Reader {
        private static final String SUBJECTS = "pkvshw";
        private static final String RELATIONS = "<=>";
        private static final String DIGITS = "0123456789";

        private final byte[] tape;
        private final int size;
        private int place = 0;
        private int number = 0;
        private final Lesson lesson = new Lesson();

        Reader(byte[] tape, int size) {
            this.tape = tape;
            this.size = Math.min(size, tape.length);
        }

        boolean readLesson() {
            for (int clauses = 0; clauses < MOST_CLAUSES; clauses++) {
                if (clauses > 0 && !take(';')) break;
                if (!readClause()) return false;
            }
            return place == size;
        }

        private boolean readClause() {
            if (take('g')) {
                if (!readWord("oal ") || !readNumber()) return false;
                lesson.toldGoal = number;
                return true;
            }
            if (take('f')) {
                if (!readWord("air ") || !readNumber()) return false;
                lesson.fair = number;
                return true;
            }
            if (!take('s')) return false;
            boolean isSpur = take('p');
            if (!readWord(isSpur ? "ur " : "hirk ") || !readNumber()) return false;
            int worth = isSpur ? number : -number;
            if (!take(' ') || !readEither(0)) return false;
            lesson.addSpur(worth);
            return true;
        }

        /** An E: parts with | between, each of parts with & between. */
        private boolean readEither(int open) {
            for (int terms = 0; terms <= size; terms++) {
                if (terms > 0 && !take('|')) break;
                for (int parts = 0; parts <= size; parts++) {
                    if (parts > 0 && !take('&')) break;
                    if (!readPart(open)) return false;
                    if (parts > 0) lesson.addCode(Lesson.AND);
                }
                if (terms > 0) lesson.addCode(Lesson.OR);
            }
            return true;
        }

        /** An F, while so many of ! and ( are open. */
        private boolean readPart(int open) {
            if (open < MOST_OPEN && take('!')) {
                if (!readPart(open + 1)) return false;
                lesson.addCode(Lesson.NOT);
                return true;
            }
            if (open < MOST_OPEN && take('(')) return readEither(open + 1) && take(')');
            int subject = takeOneOf(SUBJECTS);
            if (subject < 0) return false;
            int relation = takeOneOf(RELATIONS);
            if (relation < 0 || !readNumber()) return false;
            lesson.addTest(subject, relation, number);
            return true;
        }

        /** One or two digits; behind a 0 there is no second one. */
        private boolean readNumber() {
            number = takeOneOf(DIGITS);
            if (number < 0) return false;
            int second = number == 0 ? -1 : takeOneOf(DIGITS);
            if (second >= 0) number = number * 10 + second;
            return true;
        }

        private boolean readWord(String word) {
            for (int i = 0; i < word.length(); i++) {
                if (!take(word.charAt(i))) return false;
            }
            return true;
        }

        private boolean take(char sign) {
            if (place >= size || tape[place] != sign) return false;
            place++;
            return true;
        }

        /** Which of the signs is next, and is taken; below 0: none. */
        private int takeOneOf(String signs) {
            if (place >= size) return -1;
            int which = signs.indexOf((char) tape[place]);
            if (which >= 0) place++;
            return which;
        }
    }

    /** The pupils, and what changes as weeks go. */
    private static final class Group {
        private int size = 0;
        private int week = 0;
        private int work = 0;
        private final int[] kinds = new int[MOST_PUPILS];
        private final int[] vs = new int[MOST_PUPILS];
        private final int[] skills = new int[MOST_PUPILS];
        private final int[] wills = new int[MOST_PUPILS];
        private final int[] hours = new int[MOST_PUPILS];
        private final boolean[] outs = new boolean[MOST_PUPILS];
        private final int[] rows = new int[MOST_PUPILS * ROW];
        private final int[] does = new int[MOST_PUPILS];

        /** The number of the new one. An undo may have left an undone one's numbers in its place. */
        int add(int kind, int v, int skill, int will) {
            if (size >= MOST_PUPILS) return FULL;
            kinds[size] = kind;
            vs[size] = v;
            skills[size] = skill;
            wills[size] = will;
            hours[size] = 0;
            outs[size] = false;
            for (int k = 0; k < ROW; k++) rows[size * ROW + k] = 0;
            size++;
            return size - 1;
        }

        void copyFrom(Group other) {
            size = other.size;
            week = other.week;
            work = other.work;
            for (int p = 0; p < size; p++) {
                kinds[p] = other.kinds[p];
                vs[p] = other.vs[p];
                skills[p] = other.skills[p];
                wills[p] = other.wills[p];
                hours[p] = other.hours[p];
                outs[p] = other.outs[p];
            }
            System.arraycopy(other.rows, 0, rows, 0, size * ROW);
        }

        /** What a TEST looks at: one of pkvshw, by its place there. */
        int subjectOf(int pupil, int subject) {
            switch (subject) {
                case 0: return pupil;
                case 1: return kinds[pupil];
                case 2: return vs[pupil];
                case 3: return skills[pupil];
                case 4: return hours[pupil] / 10;
                default: return week % 10;
            }
        }

        int doesOf(int pupil, Lesson lesson) {
            if (outs[pupil]) return 0;
            int zeal = lesson.zealOf(this, pupil);
            int wish = zeal;
            switch (kinds[pupil]) {
                case KEEN:
                    wish = zeal + vs[pupil] / 2;
                    break;
                case IDLE:
                    wish = zeal / 2;
                    break;
                case LEADER:
                    wish = zeal + vs[pupil] / 2 + size - countIn();
                    break;
                case SHY:
                    wish = zeal / 2 - countBetter(pupil);
                    break;
                case TOLD:
                    wish = zeal + rowNow(pupil);
                    break;
                default:
                    break;
            }
            return Math.max(0, Math.min(wish, wills[pupil]));
        }

        /** Weeks go; HOURS and WORK are held at their greatest, or (in a forecast) not. */
        void goWeeks(Lesson lesson, int weeks, boolean isHeld) {
            for (int i = 0; i < weeks; i++) {
                for (int p = 0; p < size; p++) does[p] = doesOf(p, lesson);
                for (int p = 0; p < size; p++) {
                    hours[p] += does[p];
                    work += does[p] * skills[p];
                    if (isHeld) hours[p] = Math.min(hours[p], MOST_HOURS);
                }
                if (isHeld) work = Math.min(work, MOST_WORK);
                changeWills(lesson.fair);
                week++;
            }
        }

        private void changeWills(int fair) {
            int in = countIn();
            if (in == 0) return;
            int all = 0;
            for (int p = 0; p < size; p++) all += does[p];
            int average = all / in;
            for (int p = 0; p < size; p++) {
                if (outs[p]) continue;
                if (does[p] > average) wills[p] = Math.max(0, wills[p] - fair);
                if (does[p] < average) wills[p] = Math.min(MOST_WILL, wills[p] + 1);
            }
        }

        private int rowNow(int pupil) {
            return rows[pupil * ROW + week % ROW];
        }

        private int countIn() {
            int in = 0;
            for (int p = 0; p < size; p++) {
                if (!outs[p]) in++;
            }
            return in;
        }

        private int countBetter(int pupil) {
            int better = 0;
            for (int p = 0; p < size; p++) {
                if (!outs[p] && skills[p] > skills[pupil]) better++;
            }
            return better;
        }

        int hoursOfAll() {
            int all = 0;
            for (int p = 0; p < size; p++) all += hours[p];
            return all;
        }

        int claimsOfAll() {
            int all = 0;
            for (int p = 0; p < size; p++) all += claimOf(p);
            return all;
        }

        int shareOf(int pupil) {
            int all = hoursOfAll();
            return all == 0 ? 0 : 100 * hours[pupil] / all;
        }

        int claimOf(int pupil) {
            int share = shareOf(pupil);
            switch (kinds[pupil]) {
                case KEEN:
                case LEADER:
                    return toHundred(share - vs[pupil]);
                case IDLE: return toHundred(share + vs[pupil]);
                case BOASTER: return toHundred(2 * share);
                case SHY: return toHundred(share + vs[pupil]) / 2;
                case TOLD: return toHundred(2 * share + rowNow(pupil));
                default: return toHundred(share);
            }
        }

        private static int toHundred(int n) {
            return Math.max(0, Math.min(100, n));
        }

        int base(int goal) {
            return goal < 1 ? 100 : Math.min(100, 100 * work / goal);
        }

        int markOf(int pupil, int rule, int goal) {
            if (outs[pupil]) return 0;
            int base = base(goal);
            if (rule == 0) return base;
            if (rule == 3) return base * leastSkillIn() / 9;
            int all = 0;
            for (int p = 0; p < size; p++) {
                if (!outs[p]) all += stakeOf(p, rule);
            }
            if (all == 0) return base;
            return Math.min(100, base * stakeOf(pupil, rule) * countIn() / all);
        }

        /** By what RULES 1 and 2 part the mark: HOURS, CLAIMS. */
        private int stakeOf(int pupil, int rule) {
            return rule == 1 ? hours[pupil] : claimOf(pupil);
        }

        private int leastSkillIn() {
            int least = MOST_SKILL;
            for (int p = 0; p < size; p++) {
                if (!outs[p]) least = Math.min(least, skills[p]);
            }
            return least;
        }

        int spreadOf(int rule, int goal) {
            int greatest = 0;
            int least = 100;
            for (int p = 0; p < size; p++) {
                if (outs[p]) continue;
                int mark = markOf(p, rule, goal);
                greatest = Math.max(greatest, mark);
                least = Math.min(least, mark);
            }
            return Math.max(0, greatest - least);
        }

        /** How far MARKS by a RULE are from those by HOURS, all together. */
        int awayFromHours(int rule, int goal) {
            int away = 0;
            for (int p = 0; p < size; p++) {
                away += Math.abs(markOf(p, rule, goal) - markOf(p, 1, goal));
            }
            return away;
        }
    }

    /** What would be: a trial that starts from how all is, and is thrown away. */
    private static final class Forecast {
        private final Group trial = new Group();
        private final Group start = new Group();
        private Lesson lesson = new Lesson();

        void begin(Room room) {
            start.copyFrom(room.group);
            trial.copyFrom(room.group);
            lesson = room.lesson();
        }

        void beginWithout(Room room, int pupil) {
            begin(room);
            trial.outs[pupil] = true;
        }

        void go(int weeks) {
            trial.goWeeks(lesson, weeks, false);
        }

        int workMore() {
            return trial.work - start.work;
        }

        int hoursMore() {
            return trial.hoursOfAll() - start.hoursOfAll();
        }

        int hoursMoreOf(int pupil) {
            return trial.hours[pupil] - start.hours[pupil];
        }

        /** WORK more by those of a set (as bits) alone, all others being OUT. */
        int workOf(Room room, int set, int weeks) {
            begin(room);
            for (int p = 0; p < trial.size; p++) trial.outs[p] = (set >> p & 1) == 0;
            trial.goWeeks(lesson, weeks, false);
            return workMore();
        }

        /** Whether all that is SEEN (WORK more, behind so many WEEKS) comes so. */
        boolean meets(Rows seen) {
            for (int weeks = 0; weeks <= MOST_SEEN_WEEKS; weeks++) {
                for (int i = 0; i < seen.size; i++) {
                    if (seen.seconds[i] == weeks && seen.firsts[i] != workMore()) return false;
                }
                trial.goWeeks(lesson, 1, false);
            }
            return true;
        }

        void follow(Rows plan) {
            for (int i = 0; i < plan.size; i++) {
                int pupil = plan.seconds[i];
                int what = plan.firsts[i];
                if (what == 0) {
                    trial.goWeeks(lesson, 1, false);
                    continue;
                }
                if (pupil < 0 || pupil >= trial.size) continue;
                if (what == 3) trial.wills[pupil] = MOST_WILL;
                else trial.outs[pupil] = what == 1;
            }
        }
    }

    /** The BODIES, and THE TRACE of the latest act. */
    private static final class Acts {
        /** Three KINDS at most stand above one another, and an act goes from tells to writes to thinks alone. */
        private static final int DEEPEST = 9;

        private final int[] kept = new int[MOST_KEPT];
        private int ran = 0;
        private int kind = PUPIL;
        private int v = 0;
        private int i = 0;

        private void begins(int body) {
            if (ran >= 0 && ran < kept.length) kept[ran] = body;
            ran++;
        }

        /** The first body from a KIND on upwards; super's are asked from the KIND above the body's. */
        private int thinks(int from, int x, int deep) {
            if (deep > DEEPEST) return 0;
            switch (from) {
                case KEEN:
                case LEADER:
                    begins(11);
                    return thinks(PUPIL, x * 3, deep + 1);
                case SHY:
                    begins(51);
                    return thinks(IDLE, x, deep + 1) ^ i;
                default:
                    begins(1);
                    return x + i;
            }
        }

        private int writes(int from, int x, int deep) {
            if (deep > DEEPEST) return 0;
            switch (from) {
                case TOLD:
                    begins(61);
                    return writes(BOASTER, x, deep + 1) + v;
                case IDLE:
                case SHY:
                    begins(21);
                    return -writes(PUPIL, x, deep + 1);
                default:
                    begins(2);
                    return thinks(kind, x, deep + 1) - v;
            }
        }

        private int tells(int from, int x, int deep) {
            if (deep > DEEPEST) return 0;
            switch (from) {
                case BOASTER:
                case TOLD:
                    begins(31);
                    return tells(PUPIL, x, deep + 1) ^ 7;
                case LEADER:
                    begins(41);
                    return tells(KEEN, x - 1, deep + 1) + thinks(kind, 2, deep + 1);
                default:
                    begins(3);
                    return writes(kind, x, deep + 1) * 2;
            }
        }
    }
}
