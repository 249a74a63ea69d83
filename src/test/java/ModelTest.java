import java.util.Random;

/** Compares the program with the model of the document over runs of many calls (all promises). */
public final class ModelTest {
    private static final int RUNS = 1500;
    private static final int CALLS = 512;
    private static final int[] ODD = {-1, 0, 1, 3, 4, 8, 9, 10, 14, 16, 20, 21, 40, 60, 99, 100,
        999, Integer.MAX_VALUE, Integer.MIN_VALUE, Integer.MIN_VALUE + 1};

    private final Random random;
    private final HopHomes x = new HopHomes();
    private final Model y = new Model();
    private final int run;
    private final int usedPages;
    private final int usedThreads;
    private final int mostFrames;
    private final int wrongShare;
    private final int accessShare;
    private final int moveShare;
    private int number;

    public static void main(String[] args) {
        for (int run = 1; run <= RUNS; run++) {
            new ModelTest(run).goThrough();
        }
        Check.end();
    }

    private ModelTest(int run) {
        this.run = run;
        random = new Random(run);
        usedPages = new int[] {1, 2, 4, 12, 40}[random.nextInt(5)];
        usedThreads = 1 + random.nextInt(run % 2 == 0 ? 3 : 8);
        mostFrames = new int[] {2, 3, 6, 20}[random.nextInt(4)];
        wrongShare = run % 3 == 0 ? 10 : 1;
        accessShare = 40 + random.nextInt(55);
        moveShare = random.nextInt(100);
    }

    private void goThrough() {
        setUp();
        while (number < CALLS) {
            int kind = random.nextInt(100);
            if (kind < accessShare) {
                call(random.nextInt(100) < moveShare ? 7 : 6);
            } else {
                call(random.nextInt(25));
            }
            if (random.nextInt(64) == 0) {
                compareAll();
            }
        }
        compareAll();
    }

    private void setUp() {
        if (mostFrames == 20) {
            for (int home = 0; home < 4; home++) {
                due("setFrames", x.setFrames(home, 20), y.setFrames(home, 20));
            }
        }
        for (int i = 0; i < usedPages; i++) {
            int home = random.nextInt(4);
            due("addPage", x.addPage(home), y.addPage(home));
        }
        for (int i = 0; i < usedThreads; i++) {
            int home = random.nextInt(4);
            due("addThread", x.addThread(home), y.addThread(home));
        }
        int policy = random.nextInt(4);
        due("set", x.set(0, policy), y.set(0, policy));
        int threshold = 1 + random.nextInt(4);
        due("set", x.set(2, threshold), y.set(2, threshold));
    }

    private void due(String call, int got, int want) {
        number++;
        Check.due("run " + run + ", call " + number + ", " + call, got, want);
    }

    private int pick(int bound) {
        if (random.nextInt(100) < wrongShare) {
            return random.nextInt(8) == 0 ? random.nextInt() : ODD[random.nextInt(ODD.length)];
        }
        return random.nextInt(bound);
    }

    private int pickPage() {
        return random.nextInt(4) == 0 ? pick(usedPages) : pick(Math.min(3, usedPages));
    }

    private void call(int kind) {
        switch (kind) {
            case 0 -> callSetFrames(pick(4), 1 + pick(mostFrames));
            case 1 -> callAddPage(pick(4));
            case 2 -> callAddThread(pick(4));
            case 3, 4 -> callGo(pick(usedThreads), pick(4));
            case 5 -> callSet(pick(3));
            case 6 -> callRead(pick(usedThreads), pickPage());
            case 7 -> callWrite(pick(usedThreads), pickPage());
            case 8 -> due("fade", x.fade(), y.fade());
            case 9, 10 -> callTypes();
            case 11, 12 -> due("perform", x.perform(), y.perform());
            case 13 -> due("undo", x.undo(), y.undo());
            case 14 -> due("keep", x.keep(), y.keep());
            case 15 -> callRestore();
            case 16 -> callHome(pick(4), pick(6));
            case 17 -> callPage(pickPage(), pick(14));
            case 18 -> callThread(pick(usedThreads), pick(5));
            case 19 -> callHops(pick(4), pick(4));
            case 20 -> callWouldPay(pick(usedThreads), pickPage(), random.nextBoolean());
            case 21 -> callTrial(pick(4));
            case 22 -> due("bestPolicy", x.bestPolicy(), y.bestPolicy());
            case 23 -> callBestHome(pickPage());
            default -> callTold(pick(12), pick(4), pick(16));
        }
    }

    private void callSetFrames(int home, int frames) {
        String call = "setFrames(" + home + ", " + frames + ")";
        due(call, x.setFrames(home, frames), y.setFrames(home, frames));
    }

    private void callAddPage(int home) {
        due("addPage(" + home + ")", x.addPage(home), y.addPage(home));
    }

    private void callAddThread(int home) {
        due("addThread(" + home + ")", x.addThread(home), y.addThread(home));
    }

    private void callGo(int thread, int home) {
        due("go(" + thread + ", " + home + ")", x.go(thread, home), y.go(thread, home));
    }

    private void callSet(int what) {
        int value = what == 0 ? pick(4) : what == 1 ? pick(100) : 1 + pick(6);
        due("set(" + what + ", " + value + ")", x.set(what, value), y.set(what, value));
    }

    private void callRead(int thread, int page) {
        int want = y.access(thread, page, false);
        due("read(" + thread + ", " + page + ")", x.read(thread, page), want);
    }

    private void callWrite(int thread, int page) {
        int want = y.access(thread, page, true);
        due("write(" + thread + ", " + page + ")", x.write(thread, page), want);
    }

    /** Types some steps, of which one in a few texts has a fault, or goes on with the old text. */
    private void callTypes() {
        if (random.nextInt(6) != 0) {
            due("clearText", x.clearText(), y.clearText());
        }
        StringBuilder text = new StringBuilder();
        int steps = 1 + random.nextInt(12);
        for (int i = 0; i < steps; i++) {
            text.append(i == 0 ? "" : ";").append(step());
        }
        if (random.nextInt(8) == 0) {
            text.setCharAt(random.nextInt(text.length()), "rwg.;0123456789xR /:\u0160".charAt(random.nextInt(20)));
        }
        if (random.nextInt(12) == 0) {
            text.setLength(random.nextInt(text.length()));
        }
        for (int i = 0; i < text.length(); i++) {
            due("type " + text, x.type(text.charAt(i)), y.type(text.charAt(i)));
        }
        due("perform of " + text, x.perform(), y.perform());
    }

    private String step() {
        int thread = random.nextInt(100) < wrongShare ? random.nextInt(10) : random.nextInt(usedThreads);
        int kind = random.nextInt(5);
        if (kind == 0) {
            return "g" + thread + "." + random.nextInt(4);
        }
        int page = random.nextInt(100) < wrongShare ? random.nextInt(100) : random.nextInt(Math.min(3, usedPages));
        return (kind < 3 ? "r" : "w") + thread + "." + page;
    }

    private void callRestore() {
        // Seldom, since it takes away what has come together.
        if (random.nextInt(4) == 0) {
            due("restore", x.restore(), y.restore());
        }
    }

    private void callHome(int home, int what) {
        due("home(" + home + ", " + what + ")", x.home(home, what), y.home(home, what));
    }

    private void callPage(int page, int what) {
        due("page(" + page + ", " + what + ")", x.page(page, what), y.page(page, what));
    }

    private void callThread(int thread, int what) {
        due("thread(" + thread + ", " + what + ")", x.thread(thread, what), y.thread(thread, what));
    }

    private void callHops(int one, int other) {
        due("hops(" + one + ", " + other + ")", x.hops(one, other), y.hops(one, other));
    }

    private void callWouldPay(int thread, int page, boolean writes) {
        String call = "wouldPay(" + thread + ", " + page + ", " + writes + ")";
        due(call, x.wouldPay(thread, page, writes), y.wouldPay(thread, page, writes));
    }

    private void callTrial(int policy) {
        due("trial(" + policy + ")", x.trial(policy), y.trial(policy));
    }

    private void callBestHome(int page) {
        due("bestHome(" + page + ")", x.bestHome(page), y.bestHome(page));
    }

    private void callTold(int back, int part, int what) {
        due("event(" + back + ", " + part + ")", x.event(back, part), y.event(back, part));
        due("count(" + what + ")", x.count(what), y.count(what));
    }

    /** Looks at all that is told, without counting these calls as calls of the run. */
    private void compareAll() {
        int before = number;
        for (int what = -1; what <= 16; what++) {
            for (int one = -1; one <= 4; one++) {
                callHome(one, what);
            }
            for (int page = -1; page <= usedPages; page++) {
                callPage(page, what);
            }
            for (int thread = -1; thread <= 8; thread++) {
                callThread(thread, what);
            }
            callTold(what, what, what);
        }
        for (int back = 0; back < 11; back++) {
            for (int part = 0; part < 4; part++) {
                callTold(back, part, 0);
            }
        }
        for (int page = 0; page < usedPages; page++) {
            callBestHome(page);
            callWouldPay(0, page, true);
            callWouldPay(0, page, false);
        }
        due("bestPolicy", x.bestPolicy(), y.bestPolicy());
        number = before;
    }
}
