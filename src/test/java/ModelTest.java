import java.util.Random;

/** All promises: long runs of calls, drawn with fixed seeds, answered as the Model answers them. */
public final class ModelTest {
    /** What an object answers behind its 512th call is free. */
    private static final int RUNS = 1200, MOST_CALLS = 512;

    private final Random random;
    private final int run;
    private final OneDidAll x = new OneDidAll();
    private final Model m = new Model();
    private boolean same = true;
    private int calls = 0;

    private ModelTest(int run) {
        this.run = run;
        random = new Random(run);
    }

    public static void main(String[] args) {
        for (int run = 0; run < RUNS; run++) new ModelTest(run).go();
        Check.end();
    }

    private void go() {
        int first = below(8);
        for (int i = 0; i < first; i++) aPupil();
        if (below(4) > 0) aClass();
        for (int i = 0; i < MOST_CALLS && calls < MOST_CALLS && same; i++) call();
    }

    private void due(String call, long got, long want) {
        calls++;
        if (calls > MOST_CALLS) return;
        if (got != want) same = false;
        Check.due("run " + run + ": " + call, got, want);
    }

    private int below(int n) {
        return random.nextInt(n);
    }

    /** From the least to the greatest, sometimes one beside them, now and then far from them. */
    private int near(int least, int greatest) {
        int n = below(40);
        if (n == 0) return least - 1;
        if (n == 1) return greatest + 1;
        if (n == 2) return random.nextInt();
        if (n < 6) return least;
        if (n < 9) return greatest;
        return least + below(greatest - least + 1);
    }

    private int aNumberOf() {
        return below(25) == 0 ? near(0, 5) : m.now.pupils.isEmpty() ? 0 : below(m.now.pupils.size());
    }

    private void aPupil() {
        int kind = near(0, 6);
        int v = near(0, 9);
        int skill = near(1, 9);
        int will = near(0, below(3) == 0 ? 99 : 20);
        due("pupil", x.pupil(kind, v, skill, will), m.pupil(kind, v, skill, will));
    }

    private void aClass() {
        String text = below(30) == 0 ? "" : texts();
        if (below(3) == 0 && !text.isEmpty()) text = spoilt(text);
        for (int i = 0; i < text.length(); i++) due("feed", x.feed(text.charAt(i)), m.feed(text.charAt(i)));
        due("school() of " + m.now.tape, x.school(), m.school());
    }

    private String texts() {
        StringBuilder text = new StringBuilder(clause());
        int more = below(12) == 0 ? below(12) : below(4);
        for (int i = 0; i < more; i++) text.append(';').append(more > 4 && below(3) > 0 ? "fair 1" : clause());
        return text.toString();
    }

    private String clause() {
        switch (below(6)) {
            case 0: return "goal " + number();
            case 1: return "fair " + number();
            case 2: return "shirk " + number() + " " + either(0);
            default: return "spur " + number() + " " + either(0);
        }
    }

    private int number() {
        return below(3) == 0 ? below(100) : below(10);
    }

    private String either(int open) {
        StringBuilder text = new StringBuilder(part(open));
        while (below(3) == 0) text.append("|&&".charAt(below(3))).append(part(open));
        return text.toString();
    }

    private String part(int open) {
        if (open < 6 && below(4) == 0) return "!" + part(open + 1);
        if (open < 6 && below(4) == 0) return "(" + either(open + 1) + ")";
        return "" + "pkvshw".charAt(below(6)) + "<=>".charAt(below(3)) + number();
    }

    private String spoilt(String text) {
        StringBuilder spoilt = new StringBuilder(text);
        int at = below(text.length());
        char sign = "gfs pkvhw<=>!()&|;0129x\0".charAt(below(24));
        switch (below(3)) {
            case 0: return spoilt.deleteCharAt(at).toString();
            case 1: return spoilt.insert(at, sign).toString();
            default: spoilt.setCharAt(at, sign);
        }
        return spoilt.toString();
    }

    private void call() {
        switch (below(6)) {
            case 0: change(); break;
            case 1: tell(); break;
            case 2: askOf(); break;
            case 3: askWeeks(); break;
            case 4: askGroups(); break;
            default: askSeen(); break;
        }
    }

    private void change() {
        int p = aNumberOf();
        int k = near(0, 3);
        int n = near(0, 9);
        switch (below(12)) {
            case 0: aPupil(); break;
            case 1: if (below(3) == 0) aClass(); break;
            case 2: case 3: due("row", x.row(p, k, n), m.row(p, k, n)); break;
            case 4:
                n = near(0, 99);
                due("will", x.will(p, n), m.will(p, n));
                break;
            case 5: case 6:
                boolean is = below(3) == 0;
                due("out", x.out(p, is), m.out(p, is));
                break;
            case 7:
                n = near(0, 127);
                due("feed", x.feed(n), m.feed(n));
                break;
            case 8: if (below(3) == 0) due("image", x.image(), m.image()); break;
            case 9: if (below(3) == 0) due("undo", x.undo(), m.undo()); break;
            default:
                n = below(4) > 0 ? below(4) : near(0, 60);
                due("pass(" + n + ")", x.pass(n), m.pass(n));
        }
    }

    private void tell() {
        int p = aNumberOf();
        int n;
        switch (below(4)) {
            case 0:
                n = near(0, 20);
                int work = below(12) == 0 ? -1 : below(4) > 0 ? (int) m.on(n, 0) : near(0, 99999);
                due("see(" + work + ", " + n + ")", x.see(work, n), m.see(work, n));
                break;
            case 1: case 2:
                n = below(12) == 0 ? -1 : below(2) == 0 ? 0 : near(0, 3);
                due("plan", x.plan(n, p), m.plan(n, p));
                break;
            default:
                if (below(12) == 0) p = -1;
                n = below(4) > 0 ? (int) m.of(p, 4) : near(0, 9999);
                due("book", x.book(p, n), m.book(p, n));
        }
    }

    private void askOf() {
        int p = aNumberOf();
        int n = near(0, 9);
        int rule = near(0, 3);
        int kind = near(0, 6);
        due("of(" + p + ", " + n + ")", x.of(p, n), m.of(p, n));
        due("told(" + kind + ")", x.told(kind), m.told(kind));
        due("mark(" + p + ", " + rule + ")", x.mark(p, rule), m.mark(p, rule));
        due("as(" + p + ", " + kind + ")", x.as(p, kind), m.as(p, kind));
        int act = near(0, 2);
        int to = below(2) == 0 ? random.nextInt() : below(10);
        due("act(" + p + ", " + act + ", " + to + ")", x.act(p, act, to), m.act(p, act, to));
        due("trace(" + kind + ")", x.trace(kind), m.trace(kind));
        due("count(" + kind + ")", x.count(kind), m.count(kind));
    }

    private void askWeeks() {
        int n = near(0, 60);
        int[] starts = {0, 0, 10, 20, 20, 15};
        int what = starts[below(6)] + near(0, 4);
        int rule = near(0, 3);
        due("on(" + n + ", " + what + ")", x.on(n, what), m.on(n, what));
        due("ready()", x.ready(), m.ready());
        due("spread(" + rule + ")", x.spread(rule), m.spread(rule));
        due("nearest()", x.nearest(), m.nearest());
        due("looked()", x.looked(), m.looked());
        due("done(" + (rule - 1) + ")", x.done(rule - 1), m.done(rule - 1));
    }

    private void askGroups() {
        int p = aNumberOf();
        int what = near(0, 1);
        int k = near(1, 6);
        switch (below(5)) {
            case 0: due("throwOut()", x.throwOut(), m.throwOut()); break;
            case 1: due("alone(" + p + ")", x.alone(p), m.alone(p)); break;
            case 2: due("team(" + k + ", " + what + ")", x.team(k, what), m.team(k, what)); break;
            case 3: due("split(" + what + ")", x.split(what), m.split(what)); break;
            default: due("part(" + p + ", " + what + ")", x.part(p, what), m.part(p, what));
        }
    }

    private void askSeen() {
        int p = aNumberOf();
        int what = near(0, 1);
        int n = near(0, 60);
        int work = below(3) > 0 ? (int) m.on(n, 0) * 4 / 5 : near(0, 99999);
        switch (below(4)) {
            case 0: due("skilled(" + p + ", " + what + ")", x.skilled(p, what), m.skilled(p, what)); break;
            case 1: due("firm(" + p + ", " + what + ")", x.firm(p, what), m.firm(p, what)); break;
            case 2: due("odds(" + n + ", " + work + ", " + what + ")", x.odds(n, work, what), m.odds(n, work, what)); break;
            default: due("mean(" + n + ", " + what + ")", x.mean(n, what), m.mean(n, what));
        }
    }
}
