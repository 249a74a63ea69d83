/**
 * "A call that returns an error or NONE changes nothing": each such call is tried in several
 * states, and behind it the object is compared with a twin that was not called so. The calls that
 * only tell, and those that are no acts, are tried in the same way.
 */
public final class RefusedTest {
    private static final int[] NO_HOMES = Check.outside(0, 3);
    private static final int[] NO_PAGES_OF_BUSY = Check.outside(0, 4);
    private static final int[] NO_THREADS_OF_BUSY = Check.outside(0, 1);

    public static void main(String[] args) {
        busyIsBusy();
        homesAndThreads();
        framesAndSettings();
        noRoom();
        asItIsAlready();
        accesses();
        texts();
        history();
        toldOfNothing();
        toldOfSomething();
        Check.end();
    }

    /** The state that most calls are tried in holds what could be changed by them. */
    private static void busyIsBusy() {
        HopHomes x = States.busy();
        Check.due("pages", x.count(1), 5);
        Check.due("threads", x.count(2), 2);
        Check.due("frozen pages", x.count(10), 1);
        Check.holds("copies", x.count(3) > 0);
        Check.holds("copies gave way", x.count(8) > 0);
        Check.holds("denials", x.count(9) > 0);
        Check.due("states in the history", x.count(14), 4);
        Check.holds("the log is full", x.event(9, 0) >= 0);
        Check.due("home 1 is more than full", x.home(1, 1) - x.home(1, 0), 1);
        Check.due("home 2 is full", x.home(2, 1) + x.home(2, 2), x.home(2, 0));
        Check.holds("the text is a trace", x.bestPolicy() >= 0);
        Check.holds("there is a snapshot", x.restore() >= 0);
    }

    private static void busy(String name, Twins.Call call, int due) {
        Twins.unchanged(name + " in the busy state", States::busy, call, due);
    }

    private static void homesAndThreads() {
        for (int home : NO_HOMES) {
            busy("setFrames(" + home + ", 5)", x -> x.setFrames(home, 5), HopHomes.UNKNOWN);
            busy("addPage(" + home + ")", x -> x.addPage(home), HopHomes.UNKNOWN);
            busy("addThread(" + home + ")", x -> x.addThread(home), HopHomes.UNKNOWN);
            busy("go(0, " + home + ")", x -> x.go(0, home), HopHomes.UNKNOWN);
        }
        for (int thread : NO_THREADS_OF_BUSY) {
            busy("go(" + thread + ", 0)", x -> x.go(thread, 0), HopHomes.UNKNOWN);
        }
    }

    private static void framesAndSettings() {
        for (int frames : Check.outside(1, 20)) {
            busy("setFrames(3, " + frames + ")", x -> x.setFrames(3, frames), HopHomes.BAD_VALUE);
        }
        for (int what : Check.outside(0, 2)) {
            busy("set(" + what + ", 1)", x -> x.set(what, 1), HopHomes.BAD_VALUE);
        }
        for (int value : Check.outside(0, 3)) {
            busy("set(0, " + value + ")", x -> x.set(0, value), HopHomes.BAD_VALUE);
        }
        for (int value : Check.outside(0, 99)) {
            busy("set(1, " + value + ")", x -> x.set(1, value), HopHomes.BAD_VALUE);
        }
        for (int value : Check.outside(1, 99)) {
            busy("set(2, " + value + ")", x -> x.set(2, value), HopHomes.BAD_VALUE);
        }
    }

    private static void noRoom() {
        busy("addPage(2), full with a copy", x -> x.addPage(2), HopHomes.NOT_POSSIBLE);
        busy("addPage(1), more than full", x -> x.addPage(1), HopHomes.NOT_POSSIBLE);
        for (int home = 0; home < 4; home++) {
            int place = home;
            Twins.unchanged("the 41st page in " + home, States::full,
                    x -> x.addPage(place), HopHomes.FULL);
            Twins.unchanged("the ninth thread in " + home, States::full,
                    x -> x.addThread(place), HopHomes.FULL);
        }
        Twins.unchanged("the 61st character", States::longText, x -> x.type(';'), HopHomes.FULL);
    }

    private static void asItIsAlready() {
        for (int home = 0; home < 4; home++) {
            int place = home;
            Twins.unchanged("the frames that home " + home + " has", States::fresh,
                    x -> x.setFrames(place, 8), HopHomes.NONE);
        }
        busy("the frames that it has, with more taken", x -> x.setFrames(1, 1), HopHomes.NONE);
        busy("thread 0 to where it is", x -> x.go(0, 2), HopHomes.NONE);
        busy("thread 1 to where it is", x -> x.go(1, 3), HopHomes.NONE);
        busy("the policy that is", x -> x.set(0, 3), HopHomes.NONE);
        busy("the toll that is", x -> x.set(1, 7), HopHomes.NONE);
        busy("the threshold that is", x -> x.set(2, 1), HopHomes.NONE);
        Twins.unchanged("the first policy", States::fresh, x -> x.set(0, 0), HopHomes.NONE);
        Twins.unchanged("the first toll", States::fresh, x -> x.set(1, 5), HopHomes.NONE);
        Twins.unchanged("the first threshold", States::fresh, x -> x.set(2, 4), HopHomes.NONE);
        Twins.unchanged("fade without pages", States::fresh, HopHomes::fade, HopHomes.NONE);
        Twins.unchanged("fade of zeros", States::quiet, HopHomes::fade, HopHomes.NONE);
        Twins.unchanged("fade of faded ones", RefusedTest::faded, HopHomes::fade, HopHomes.NONE);
    }

    /** Copies, accesses and writes, but all counters are 0 again. */
    private static HopHomes faded() {
        HopHomes x = States.busy();
        x.fade();
        x.fade();
        return x;
    }

    private static void accesses() {
        for (int thread : NO_THREADS_OF_BUSY) {
            busy("read(" + thread + ", 0)", x -> x.read(thread, 0), HopHomes.UNKNOWN);
            busy("write(" + thread + ", 0)", x -> x.write(thread, 0), HopHomes.UNKNOWN);
        }
        for (int page : NO_PAGES_OF_BUSY) {
            busy("read(0, " + page + ")", x -> x.read(0, page), HopHomes.UNKNOWN);
            busy("write(0, " + page + ")", x -> x.write(0, page), HopHomes.UNKNOWN);
        }
        Twins.unchanged("read without pages", States::fresh, x -> x.read(0, 0), HopHomes.UNKNOWN);
        Twins.unchanged("write without pages", States::fresh, x -> x.write(0, 0), HopHomes.UNKNOWN);
        Twins.unchanged("read by thread 8", States::full, x -> x.read(8, 0), HopHomes.UNKNOWN);
        Twins.unchanged("write of page 40", States::full, x -> x.write(0, 40), HopHomes.UNKNOWN);
    }

    private static Twins.Maker busyWith(String text) {
        return () -> {
            HopHomes x = States.busy();
            Check.type(x, text);
            return x;
        };
    }

    private static void text(String text, int due) {
        Twins.Maker maker = busyWith(text);
        Twins.unchanged("perform of " + text, maker, HopHomes::perform, due);
        Twins.unchanged("bestPolicy of " + text, maker, HopHomes::bestPolicy, due);
        for (int policy = 0; policy < 4; policy++) {
            int tried = policy;
            Twins.unchanged("trial of " + text, maker, x -> x.trial(tried), due);
        }
    }

    private static void texts() {
        text("", -100);
        text("x", -100);
        text("r0.0;", -105);
        text("r0.0;w1.1;g0.4", -113);
        text("w0.0;r1.0;r0.0;w1.1;g1.1;r2.0", HopHomes.UNKNOWN);
        text("w0.0;r1.0;r0.0;w1.1;g1.1;r0.5", HopHomes.UNKNOWN);
        text("g2.0;w0.0;r1.0;r0.0;w1.1", HopHomes.UNKNOWN);
        text("r0.5;w0.0;r1.0;r0.0;w1.1", HopHomes.UNKNOWN);
        for (int policy : Check.outside(0, 3)) {
            busy("trial(" + policy + ")", x -> x.trial(policy), HopHomes.BAD_VALUE);
        }
        Twins.unchanged("clearText of the empty text", States::fresh, HopHomes::clearText, 0);
    }

    private static void history() {
        Twins.unchanged("undo of a new object", States::fresh, HopHomes::undo, HopHomes.NONE);
        Twins.unchanged("undo of all", RefusedTest::withoutHistory, HopHomes::undo, HopHomes.NONE);
        Twins.unchanged("restore of a new object", States::fresh, HopHomes::restore, HopHomes.NONE);
        Twins.unchanged("restore without snapshot", States::quiet, HopHomes::restore, HopHomes.NONE);
    }

    /** The history is empty, but the four acts behind the oldest state were not the first ones. */
    private static HopHomes withoutHistory() {
        HopHomes x = States.busy();
        for (int left = 3; left >= 0; left--) {
            Check.due("undo", x.undo(), left);
        }
        return x;
    }

    private static void toldOfNothing() {
        for (int home : NO_HOMES) {
            busy("home(" + home + ", 0)", x -> x.home(home, 0), HopHomes.UNKNOWN);
            busy("hops(" + home + ", 0)", x -> x.hops(home, 0), HopHomes.UNKNOWN);
            busy("hops(0, " + home + ")", x -> x.hops(0, home), HopHomes.UNKNOWN);
        }
        for (int page : NO_PAGES_OF_BUSY) {
            busy("page(" + page + ", 0)", x -> x.page(page, 0), HopHomes.UNKNOWN);
            busy("bestHome(" + page + ")", x -> x.bestHome(page), HopHomes.UNKNOWN);
            busy("wouldPay(0, " + page + ")", x -> x.wouldPay(0, page, true), HopHomes.UNKNOWN);
        }
        for (int thread : NO_THREADS_OF_BUSY) {
            busy("thread(" + thread + ", 0)", x -> x.thread(thread, 0), HopHomes.UNKNOWN);
            busy("wouldPay(" + thread + ", 0)", x -> x.wouldPay(thread, 0, false), HopHomes.UNKNOWN);
        }
        busy("home(0, 6)", x -> x.home(0, 6), HopHomes.BAD_VALUE);
        busy("home(0, 5)", x -> x.home(0, 5), HopHomes.NONE);
        busy("page(0, 8)", x -> x.page(0, 8), HopHomes.BAD_VALUE);
        busy("page(0, 6)", x -> x.page(0, 6), HopHomes.NONE);
        busy("thread(0, 5)", x -> x.thread(0, 5), HopHomes.BAD_VALUE);
        busy("event(-1, 0)", x -> x.event(-1, 0), HopHomes.BAD_VALUE);
        busy("event(0, 4)", x -> x.event(0, 4), HopHomes.BAD_VALUE);
        busy("event(10, 0)", x -> x.event(10, 0), HopHomes.NONE);
        busy("count(16)", x -> x.count(16), HopHomes.BAD_VALUE);
    }

    /** Calls that are no acts and only tell change nothing either. */
    private static void toldOfSomething() {
        HopHomes y = States.longText();
        for (int policy = 0; policy < 4; policy++) {
            int tried = policy;
            int due = y.trial(policy);
            Check.holds("the trace can be tried", due > 0);
            Twins.unchanged("trial(" + policy + ")", States::longText, x -> x.trial(tried), due);
        }
        Twins.unchanged("bestPolicy()", States::longText, HopHomes::bestPolicy, y.bestPolicy());
        busy("bestPolicy()", HopHomes::bestPolicy, States.busy().bestPolicy());
        busy("wouldPay of writing", x -> x.wouldPay(1, 0, true), States.busy().wouldPay(1, 0, true));
        busy("wouldPay of reading", x -> x.wouldPay(1, 4, false), States.busy().wouldPay(1, 4, false));
        busy("home(2, 5)", x -> x.home(2, 5), 3);
        busy("page(0, 5)", x -> x.page(0, 5), 26);
        busy("event(9, 3)", x -> x.event(9, 3), 9);
        busy("count(0)", x -> x.count(0), 16);
    }
}
