import java.util.ArrayList;
import java.util.List;

/**
 * The document once more, in another way: kinds as Java classes, a CLASS kept as its text and looked
 * at by cutting it up, its FAULT found by an automaton sign by sign, PARTS by walking all orders.
 */
final class Model {
    static final int NONE = -1, BAD = -2, STATE = -3, FULL = -4;
    static final long NO = Long.MIN_VALUE;

    static class Pupil implements Cloneable {
        All all;
        final List<Integer> ran = new ArrayList<>();
        int i, v, skill, will;
        long hours;
        boolean out;
        int[] row = new int[4];

        int kind() { return 0; }

        long zeal() {
            long zeal = 5;
            for (String clause : all.clauses()) {
                String[] words = clause.split(" ");
                if (words[0].equals("spur") && holds(words[2])) zeal += Integer.parseInt(words[1]);
                if (words[0].equals("shirk") && holds(words[2])) zeal -= Integer.parseInt(words[1]);
            }
            return Math.max(zeal, 0);
        }

        boolean holds(String e) {
            int or = outer(e, '|');
            if (or >= 0) return holds(e.substring(0, or)) | holds(e.substring(or + 1));
            int and = outer(e, '&');
            if (and >= 0) return holds(e.substring(0, and)) & holds(e.substring(and + 1));
            if (e.startsWith("!")) return !holds(e.substring(1));
            if (e.startsWith("(")) return holds(e.substring(1, e.length() - 1));
            long is;
            switch (e.charAt(0)) {
                case 'p': is = i; break;
                case 'k': is = kind(); break;
                case 'v': is = v; break;
                case 's': is = skill; break;
                case 'h': is = hours / 10; break;
                default: is = all.week % 10; break;
            }
            int n = Integer.parseInt(e.substring(2));
            return e.charAt(1) == '<' ? is < n : e.charAt(1) == '=' ? is == n : is > n;
        }

        static int outer(String e, char sign) {
            int open = 0;
            for (int at = 0; at < e.length(); at++) {
                if (e.charAt(at) == '(') open++;
                if (e.charAt(at) == ')') open--;
                if (e.charAt(at) == sign && open == 0) return at;
            }
            return -1;
        }

        long wants() { return zeal(); }

        long does() { return out ? 0 : Math.max(0, Math.min(wants(), will)); }

        long share() {
            long sum = all.hours();
            return sum == 0 ? 0 : 100 * hours / sum;
        }

        long claims() { return share(); }

        long claim() { return held(claims()); }

        static long held(long n) { return n < 0 ? 0 : n > 100 ? 100 : n; }

        int thinks(int x) {
            ran.add(1);
            return x + i;
        }

        int writes(int x) {
            ran.add(2);
            return thinks(x) - v;
        }

        int tells(int x) {
            ran.add(3);
            return writes(x) * 2;
        }

        Pupil copy(All to) {
            Pupil copy = make(kind());
            copy.all = to;
            copy.i = i;
            copy.v = v;
            copy.skill = skill;
            copy.will = will;
            copy.hours = hours;
            copy.out = out;
            copy.row = row.clone();
            return copy;
        }
    }

    static class Keen extends Pupil {
        @Override int kind() { return 1; }

        @Override long wants() { return super.wants() + v / 2; }

        @Override long claims() { return super.claims() - v; }

        @Override int thinks(int x) {
            ran.add(11);
            return super.thinks(x * 3);
        }
    }

    static class Idle extends Pupil {
        @Override int kind() { return 2; }

        @Override long wants() { return super.wants() / 2; }

        @Override long claims() { return super.claims() + v; }

        @Override int writes(int x) {
            ran.add(21);
            return -super.writes(x);
        }
    }

    static class Boaster extends Pupil {
        @Override int kind() { return 3; }

        @Override long claims() { return super.claims() * 2; }

        @Override int tells(int x) {
            ran.add(31);
            return super.tells(x) ^ 7;
        }
    }

    static final class Leader extends Keen {
        @Override int kind() { return 4; }

        @Override long wants() {
            long outs = all.pupils.stream().filter(p -> p.out).count();
            return super.wants() + outs;
        }

        @Override int tells(int x) {
            ran.add(41);
            return super.tells(x - 1) + thinks(2);
        }
    }

    static final class Shy extends Idle {
        @Override int kind() { return 5; }

        @Override long wants() {
            return super.wants() - all.pupils.stream().filter(p -> p != this && !p.out && p.skill > skill).count();
        }

        @Override long claims() { return held(super.claims()) / 2; }

        @Override int thinks(int x) {
            ran.add(51);
            return super.thinks(x) ^ i;
        }
    }

    static final class Told extends Boaster {
        @Override int kind() { return 6; }

        @Override long wants() { return super.wants() + row[(int) (all.week % 4)]; }

        @Override long claims() { return super.claims() + row[(int) (all.week % 4)]; }

        @Override int writes(int x) {
            ran.add(61);
            return super.writes(x) + v;
        }
    }

    static Pupil make(int kind) {
        switch (kind) {
            case 1: return new Keen();
            case 2: return new Idle();
            case 3: return new Boaster();
            case 4: return new Leader();
            case 5: return new Shy();
            case 6: return new Told();
            default: return new Pupil();
        }
    }

    /** All that there is. */
    static final class All {
        final List<Pupil> pupils = new ArrayList<>();
        final List<String> lessons = new ArrayList<>();
        String tape = "";
        long work, week;
        final List<int[]> seen = new ArrayList<>(), plan = new ArrayList<>(), book = new ArrayList<>();

        All copy() {
            All copy = new All();
            for (Pupil p : pupils) copy.pupils.add(p.copy(copy));
            copy.lessons.addAll(lessons);
            copy.tape = tape;
            copy.work = work;
            copy.week = week;
            copy.seen.addAll(seen);
            copy.plan.addAll(plan);
            copy.book.addAll(book);
            return copy;
        }

        String[] clauses() {
            return lessons.isEmpty() ? new String[0] : lessons.get(lessons.size() - 1).split(";");
        }

        int last(String word, int without) {
            int n = without;
            for (String clause : clauses()) {
                if (clause.startsWith(word + " ")) n = Integer.parseInt(clause.substring(word.length() + 1));
            }
            return n;
        }

        int goal() { return Math.max(1, last("goal", 60)); }

        long hours() { return pupils.stream().mapToLong(p -> p.hours).sum(); }

        long in() { return pupils.stream().filter(p -> !p.out).count(); }

        void week(boolean held) {
            long[] does = pupils.stream().mapToLong(Pupil::does).toArray();
            long sum = 0;
            for (long one : does) sum += one;
            for (Pupil p : pupils) {
                long did = does[p.i];
                p.hours += did;
                work += did * p.skill;
                if (held && p.hours > 9999) p.hours = 9999;
                if (held && work > 99999) work = 99999;
                if (p.out) continue;
                long average = sum / in();
                if (did > average) p.will = Math.max(0, p.will - last("fair", 2));
                if (did < average) p.will = Math.min(99, p.will + 1);
            }
            week++;
        }

        All after(int weeks) {
            All then = copy();
            for (int n = 0; n < weeks; n++) then.week(false);
            return then;
        }

        All with(int set) {
            All then = copy();
            for (Pupil p : then.pupils) p.out = (set & 1 << p.i) == 0;
            return then;
        }

        long workBy(int set, int weeks) { return with(set).after(weeks).work - work; }

        long base() { return Math.min(100, 100 * work / goal()); }

        long mark(int pupil, int rule) {
            Pupil one = pupils.get(pupil);
            if (one.out) return 0;
            if (rule == 0) return base();
            if (rule == 3) return base() * pupils.stream().filter(p -> !p.out).mapToInt(p -> p.skill).min().orElse(9) / 9;
            long sum = pupils.stream().filter(p -> !p.out).mapToLong(p -> rule == 1 ? p.hours : p.claim()).sum();
            if (sum == 0) return base();
            return Math.min(100, base() * (rule == 1 ? one.hours : one.claim()) * in() / sum);
        }
    }

    All now = new All();
    All image = null;
    List<Integer> ran = new ArrayList<>();

    private boolean is(int pupil) { return pupil >= 0 && pupil < now.pupils.size(); }

    int feed(int sign) {
        if (sign < 0 || sign > 127) return BAD;
        if (now.tape.length() == 100) return FULL;
        now.tape += (char) sign;
        return now.tape.length();
    }

    int school() {
        if (now.lessons.size() == 5) return FULL;
        String text = now.tape;
        now.tape = "";
        int fault = fault(text);
        if (fault >= 0) return -10 - fault;
        now.lessons.add(text);
        return now.lessons.size() - 1;
    }

    /** Sign by sign: what may come next is a set of signs, or a text that has to go on so. -1: no FAULT. */
    static int fault(String text) {
        String open = "";
        String due = "";
        String then = "clause";
        int clauses = 0;
        boolean spur = false;
        for (int at = 0; at <= text.length(); at++) {
            if (at == text.length()) return due.isEmpty() && open.isEmpty() && (then.equals("end") || then.equals("digit")) ? -1 : at;
            char c = text.charAt(at);
            if (!due.isEmpty()) {
                if (due.charAt(0) != c) return at;
                due = due.substring(1);
                continue;
            }
            if (then.equals("digit") && c >= '0' && c <= '9') {
                then = "end";
                continue;
            }
            if (then.equals("digit2")) {
                if (c >= '0' && c <= '9') {
                    then = "blank";
                    continue;
                }
                then = "blank";
            }
            switch (then) {
                case "clause":
                    clauses++;
                    spur = c == 's';
                    if (c == 'g') due = "oal ";
                    else if (c == 'f') due = "air ";
                    else if (c != 's') return at;
                    then = spur ? "word" : "number";
                    break;
                case "word":
                    if (c == 'p') due = "ur ";
                    else if (c == 'h') due = "irk ";
                    else return at;
                    then = "number";
                    break;
                case "number":
                    if (c < '0' || c > '9') return at;
                    if (spur) then = c == '0' ? "blank" : "digit2";
                    else then = c == '0' ? "end" : "digit";
                    break;
                case "blank":
                    if (c != ' ') return at;
                    then = "part";
                    break;
                case "part":
                    if (c == '!' || c == '(') {
                        if (open.length() == 5) return at;
                        open += c;
                    } else if ("pkvshw".indexOf(c) >= 0) then = "relation";
                    else return at;
                    break;
                case "relation":
                    if ("<=>".indexOf(c) < 0) return at;
                    then = "compared";
                    break;
                case "compared":
                    if (c < '0' || c > '9') return at;
                    then = c == '0' ? "end" : "digit";
                    while (open.endsWith("!")) open = open.substring(0, open.length() - 1);
                    break;
                default:
                    if (spur && (c == '&' || c == '|')) then = "part";
                    else if (c == ')' && open.endsWith("(")) {
                        open = open.substring(0, open.length() - 1);
                        while (open.endsWith("!")) open = open.substring(0, open.length() - 1);
                        then = "end";
                    } else if (c == ';' && open.isEmpty() && clauses < 10) then = "clause";
                    else return at;
                    break;
            }
        }
        return -1;
    }

    int pupil(int kind, int v, int skill, int will) {
        if (kind < 0 || kind > 6) return NONE;
        if (v < 0 || v > 9 || skill < 1 || skill > 9 || will < 0 || will > 99) return BAD;
        if (now.pupils.size() == 6) return FULL;
        Pupil one = make(kind);
        one.all = now;
        one.i = now.pupils.size();
        one.v = v;
        one.skill = skill;
        one.will = will;
        now.pupils.add(one);
        return one.i;
    }

    long of(int pupil, int what) {
        if (!is(pupil)) return NONE;
        Pupil one = now.pupils.get(pupil);
        switch (what) {
            case 0: return one.kind();
            case 1: return one.v;
            case 2: return one.skill;
            case 3: return one.will;
            case 4: return one.hours;
            case 5: return one.out ? 1 : 0;
            case 6: return one.zeal();
            case 7: return one.does();
            case 8: return one.share();
            case 9: return one.claim();
            default: return NONE;
        }
    }

    int row(int pupil, int k, int n) {
        if (!is(pupil) || k < 0 || k > 3) return NONE;
        if (n < 0 || n > 9) return BAD;
        if (!(now.pupils.get(pupil) instanceof Told)) return STATE;
        int before = now.pupils.get(pupil).row[k];
        now.pupils.get(pupil).row[k] = n;
        return before;
    }

    int will(int pupil, int n) {
        if (!is(pupil)) return NONE;
        if (n < 0 || n > 99) return BAD;
        int before = now.pupils.get(pupil).will;
        now.pupils.get(pupil).will = n;
        return before;
    }

    int out(int pupil, boolean is) {
        if (!is(pupil)) return NONE;
        boolean before = now.pupils.get(pupil).out;
        now.pupils.get(pupil).out = is;
        return before ? 1 : 0;
    }

    long told(int what) {
        switch (what) {
            case 0: return now.week;
            case 1: return now.work;
            case 2: return now.goal();
            case 3: return now.last("fair", 2);
            case 4: return now.hours();
            case 5: return now.pupils.stream().mapToLong(Pupil::claim).sum();
            case 6: return now.base();
            default: return NONE;
        }
    }

    long mark(int pupil, int rule) {
        return !is(pupil) || rule < 0 || rule > 3 ? NONE : now.mark(pupil, rule);
    }

    long pass(int n) {
        if (n < 0 || n > 60) return BAD;
        if (now.week + n > 9999) return STATE;
        for (int i = 0; i < n; i++) now.week(true);
        return now.work;
    }

    long on(int n, int what) {
        boolean known = what == 0 || what == 1 || what >= 10 && what < 20 && is(what - 10) || what >= 20 && is(what - 20);
        if (!known) return NONE;
        if (n < 0 || n > 60) return BAD;
        All then = now.after(n);
        if (what == 0) return then.work - now.work;
        if (what == 1) return then.hours() - now.hours();
        if (what < 20) return then.pupils.get(what - 10).hours - now.pupils.get(what - 10).hours;
        return then.pupils.get(what - 20).will;
    }

    int ready() {
        for (int n = 0; n <= 60; n++) {
            if (now.after(n).work >= now.goal()) return n;
        }
        return -5;
    }

    long spread(int rule) {
        if (rule < 0 || rule > 3) return NONE;
        long greatest = -1;
        long least = 101;
        for (Pupil p : now.pupils) {
            if (p.out) continue;
            greatest = Math.max(greatest, now.mark(p.i, rule));
            least = Math.min(least, now.mark(p.i, rule));
        }
        return greatest < 0 ? 0 : greatest - least;
    }

    int nearest() {
        int best = -1;
        long least = Long.MAX_VALUE;
        for (int rule : new int[] {0, 2, 3}) {
            long away = 0;
            for (Pupil p : now.pupils) away += Math.abs(now.mark(p.i, rule) - now.mark(p.i, 1));
            if (away < least) {
                least = away;
                best = rule;
            }
        }
        return best;
    }

    private All without(int pupil) {
        All then = now.copy();
        then.pupils.get(pupil).out = true;
        return then;
    }

    int throwOut() {
        int best = -5;
        long most = now.after(20).work;
        for (Pupil p : now.pupils) {
            if (p.out) continue;
            long work = without(p.i).after(20).work;
            if (work > most) {
                most = work;
                best = p.i;
            }
        }
        return best;
    }

    long alone(int pupil) { return is(pupil) ? now.workBy(1 << pupil, 20) : NONE; }

    long team(int k, int what) {
        if (what < 0 || what > 1) return NONE;
        if (k < 1 || k > 6) return BAD;
        long best = -5;
        long most = -5;
        for (int set = (1 << now.pupils.size()) - 1; set >= 0; set--) {
            if (Integer.bitCount(set) != k) continue;
            long work = now.workBy(set, 10);
            if (work >= most) {
                most = work;
                best = set;
            }
        }
        return what == 0 ? best : most;
    }

    long split(int what) {
        if (what < 0 || what > 1) return NONE;
        long best = -5;
        long least = -5;
        int all = (1 << now.pupils.size()) - 1;
        for (int set = all - 1; set >= 1; set--) {
            if ((set & 1) == 0) continue;
            long far = Math.abs(now.workBy(set, 10) - now.workBy(all & ~set, 10));
            if (best == -5 || far <= least) {
                least = far;
                best = set;
            }
        }
        return what == 0 ? best : least;
    }

    private long sumOfOrders(int pupil, int come, long[] works) {
        int all = (1 << now.pupils.size()) - 1;
        if (come == all) return 0;
        long sum = 0;
        for (Pupil p : now.pupils) {
            int with = come | 1 << p.i;
            if (with == come) continue;
            if (p.i == pupil) {
                long orders = 1;
                for (int n = Integer.bitCount(all & ~with); n > 1; n--) orders *= n;
                sum += orders * (works[with] - works[come]);
            } else sum += sumOfOrders(pupil, with, works);
        }
        return sum;
    }

    private static long lowest(long above, long below, int part) {
        for (long d = below; d > 1; d--) {
            if (above % d == 0 && below % d == 0) return lowest(above / d, below / d, part);
        }
        return part == 0 ? above : below;
    }

    long part(int pupil, int part) {
        if (!is(pupil) || part < 0 || part > 1) return NO;
        long[] works = new long[1 << now.pupils.size()];
        for (int set = 1; set < works.length; set++) works[set] = now.workBy(set, 5);
        long orders = 1;
        for (int n = 2; n <= now.pupils.size(); n++) orders *= n;
        return lowest(sumOfOrders(pupil, 0, works), orders, part);
    }

    int see(int work, int n) {
        if (work == -1) {
            now.seen.clear();
            return 0;
        }
        if (work < 0 || work > 99999 || n < 0 || n > 20) return BAD;
        return told(now.seen, 5, work, n);
    }

    private static int told(List<int[]> rows, int most, int first, int second) {
        if (rows.size() == most) return FULL;
        rows.add(new int[] {first, second});
        return rows.size();
    }

    private boolean isSo(All other) {
        for (int[] one : now.seen) {
            if (other.after(one[1]).work - now.work != one[0]) return false;
        }
        return true;
    }

    int skilled(int pupil, int what) {
        if (!is(pupil) || what < 0 || what > 1) return NONE;
        List<Integer> so = new ArrayList<>();
        for (int n = 1; n <= 9; n++) {
            All other = now.copy();
            other.pupils.get(pupil).skill = n;
            if (isSo(other)) so.add(n);
        }
        return what == 0 ? so.size() : so.isEmpty() ? -5 : so.get(0);
    }

    int firm(int pupil, int what) {
        if (!is(pupil) || what < 0 || what > 1) return NONE;
        List<Integer> so = new ArrayList<>();
        for (int n = 0; n <= 9; n++) {
            All other = now.copy();
            other.pupils.get(pupil).v = n;
            if (isSo(other)) so.add(n);
        }
        return what == 0 ? so.size() : so.isEmpty() ? -5 : so.get(0);
    }

    long odds(int n, int m, int part) {
        if (n < 0 || n > 60 || m < 0 || m > 99999 || part < 0 || part > 1 || now.pupils.isEmpty()) return NO;
        long so = now.pupils.stream().filter(p -> without(p.i).after(n).work - now.work >= m).count();
        return lowest(so, now.pupils.size(), part);
    }

    long mean(int n, int part) {
        if (n < 0 || n > 60 || part < 0 || part > 1 || now.pupils.isEmpty()) return NO;
        return lowest(now.after(n).hours() - now.hours(), now.pupils.size(), part);
    }

    int plan(int what, int pupil) {
        if (what == -1) {
            now.plan.clear();
            return 0;
        }
        if (what < 0 || what > 3 || what > 0 && !is(pupil)) return NONE;
        return told(now.plan, 8, what, pupil);
    }

    long done(int what) {
        if (what < 0 || what > 1) return NONE;
        All then = now.copy();
        for (int[] one : now.plan) {
            if (one[0] == 0) then.week(false);
            if (one[0] == 1) then.pupils.get(one[1]).out = true;
            if (one[0] == 2) then.pupils.get(one[1]).out = false;
            if (one[0] == 3) then.pupils.get(one[1]).will = 99;
        }
        return what == 0 ? then.work - now.work : then.hours() - now.hours();
    }

    int book(int pupil, int hours) {
        if (pupil == -1) {
            now.book.clear();
            return 0;
        }
        if (!is(pupil)) return NONE;
        if (hours < 0 || hours > 9999) return BAD;
        return told(now.book, 8, pupil, hours);
    }

    int looked() {
        for (int[] one : now.book) {
            if (now.pupils.get(one[0]).hours != one[1]) return now.book.indexOf(one);
        }
        return -5;
    }

    int act(int pupil, int act, int x) {
        ran = new ArrayList<>();
        if (!is(pupil) || act < 0 || act > 2) return 0;
        Pupil one = now.pupils.get(pupil);
        one.ran.clear();
        int answer = act == 0 ? one.thinks(x) : act == 1 ? one.writes(x) : one.tells(x);
        ran.addAll(one.ran);
        return answer;
    }

    int trace(int i) { return i < 0 || i >= ran.size() || i >= 20 ? NONE : ran.get(i); }

    int as(int pupil, int k) {
        if (!is(pupil) || k < 0 || k > 6) return NONE;
        Pupil one = now.pupils.get(pupil);
        return make(k).getClass().isInstance(one) ? one.v : -6;
    }

    int image() {
        image = now.copy();
        return now.pupils.size();
    }

    int undo() {
        if (image == null) return STATE;
        now = image.copy();
        return now.pupils.size();
    }

    int count(int what) {
        switch (what) {
            case 0: return now.pupils.size();
            case 1: return now.lessons.size();
            case 2: return now.seen.size();
            case 3: return now.plan.size();
            case 4: return now.book.size();
            case 5: return now.tape.length();
            case 6: return ran.size();
            default: return NONE;
        }
    }
}
