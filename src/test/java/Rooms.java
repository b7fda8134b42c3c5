/** Objects in states that the edge tests begin from; each call makes a new one. */
final class Rooms {
    private Rooms() {
    }

    static OneDidAll empty() {
        return new OneDidAll();
    }

    /** PUPILS of kind 0 who do 5 hours a WEEK each, with these SKILLS. */
    static OneDidAll plain(int... skills) {
        OneDidAll x = new OneDidAll();
        for (int skill : skills) x.pupil(0, 0, skill, 99);
        return x;
    }

    /** ZEAL is 99 and FAIR 0: each PUPIL (of a KIND that isn't idle) does as many hours a WEEK as its WILL is. */
    static OneDidAll eager(int... kinds) {
        OneDidAll x = Check.taught("spur 94 p<9;fair 0");
        for (int kind : kinds) x.pupil(kind, 0, 1, 0);
        return x;
    }

    /** One WEEK in which the first PUPILS do these hours. */
    static void work(OneDidAll x, int... hours) {
        for (int p = 0; p < hours.length; p++) x.will(p, hours[p]);
        x.pass(1);
    }

    /** Four PUPILS, a class, a class on the tape, rows of all that is told by hand, an image of before. */
    static OneDidAll some() {
        OneDidAll x = Check.taught("goal 44;fair 3;spur 7 k=1|h>1;shirk 2 w=2");
        x.pupil(6, 4, 2, 50);
        x.pupil(4, 7, 3, 40);
        x.pupil(5, 1, 1, 30);
        x.pupil(1, 9, 5, 20);
        for (int k = 0; k < 4; k++) x.row(0, k, k + 1);
        x.pass(3);
        x.out(3, true);
        x.see(5, 1);
        tellByHand(x, 1);
        Check.feedAll(x, "fair 8");
        x.image();
        x.out(2, true);
        x.row(0, 1, 8);
        x.will(1, 33);
        Check.feedAll(x, ";goal 7;spur 1 p=0");
        x.see(-1, 0);
        tellByHand(x, 2);
        x.act(1, 2, 5);
        return x;
    }

    private static void tellByHand(OneDidAll x, int weeks) {
        x.see(x.on(weeks, 0), weeks);
        x.plan(0, 0);
        x.plan(1, 1);
        x.plan(0, 0);
        x.book(0, x.of(0, 4));
        x.book(weeks, 0);
    }

    /** All that may be full is: PUPILS, CLASSES, THE TAPE, SEEN, the PLAN, BOOK. In some 250 calls. */
    static OneDidAll full() {
        OneDidAll x = some();
        x.pupil(0, 5, 4, 30);
        x.pupil(3, 6, 7, 25);
        x.school();
        Check.teach(x, "fair 2");
        Check.teach(x, "fair 3");
        Check.teach(x, "goal 9;spur 4 p=4");
        for (int n = 0; n < 100; n++) x.feed(n + 1);
        int work = x.on(4, 0);
        x.see(-1, 0);
        for (int n = 0; n < 5; n++) x.see(work, 4);
        for (int n = x.count(3); n < 8; n++) x.plan(n % 4, n % 6);
        for (int n = x.count(4); n < 8; n++) x.book(n % 6, n == 7 ? 9999 : x.of(n % 6, 4));
        return x;
    }

    /** THE TAPE is full, of one class. */
    static OneDidAll fullTape() {
        OneDidAll x = new OneDidAll();
        x.pupil(0, 0, 1, 99);
        Check.feedAll(x, "goal 10;spur 10 !" + "p=1|".repeat(20) + "p=1");
        return x;
    }

    /** WEEK is 9999 or so many less. */
    static OneDidAll late(int less) {
        OneDidAll x = new OneDidAll();
        x.pupil(6, 2, 3, 40);
        x.pupil(4, 3, 1, 60);
        for (int k = 0; k < 4; k++) x.row(0, k, 2 * k + 1);
        for (int left = 9999 - less; left > 0; left -= 60) x.pass(Math.min(left, 60));
        return x;
    }
}
