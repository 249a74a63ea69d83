/** Promises 1 to 6: a new object, setFrames, addPage, addThread, go, set. */
public final class SettingUpTest {
    public static void main(String[] args) {
        newObject();
        setFrames();
        addPage();
        addPageToFullHome();
        addThread();
        go();
        set();
        Check.end();
    }

    private static void newObject() {
        HopHomes x = new HopHomes();
        for (int home = 0; home < 4; home++) {
            Check.due("frames of a new home", x.home(home, 0), 8);
            Check.due("pages of a new home", x.home(home, 1), 0);
            Check.due("copies of a new home", x.home(home, 2), 0);
            Check.due("free frames of a new home", x.home(home, 3), 8);
            Check.due("threads at a new home", x.home(home, 4), 0);
            Check.due("first to give way in a new home", x.home(home, 5), HopHomes.NONE);
        }
        for (int what = 0; what <= 15; what++) {
            int due = what == 12 ? 5 : what == 13 ? 4 : 0;
            Check.due("count(" + what + ") of a new object", x.count(what), due);
        }
        Check.due("page 0 of a new object", x.page(0, 0), HopHomes.UNKNOWN);
        Check.due("thread 0 of a new object", x.thread(0, 0), HopHomes.UNKNOWN);
        Check.due("event of a new object", x.event(0, 0), HopHomes.NONE);
        Check.due("undo of a new object", x.undo(), HopHomes.NONE);
        Check.due("restore of a new object", x.restore(), HopHomes.NONE);
    }

    private static void setFrames() {
        HopHomes x = new HopHomes();
        Check.due("setFrames(0, 1)", x.setFrames(0, 1), 8);
        Check.due("setFrames(0, 20)", x.setFrames(0, 20), 1);
        Check.due("setFrames(0, 20) again", x.setFrames(0, 20), HopHomes.NONE);
        Check.due("frames", x.home(0, 0), 20);
        Check.due("frames of another home", x.home(1, 0), 8);
        Check.due("setFrames(3, 8)", x.setFrames(3, 8), HopHomes.NONE);
        Check.due("setFrames(0, 0)", x.setFrames(0, 0), HopHomes.BAD_VALUE);
        Check.due("setFrames(0, 21)", x.setFrames(0, 21), HopHomes.BAD_VALUE);
        Check.due("setFrames(4, 5)", x.setFrames(4, 5), HopHomes.UNKNOWN);
        Check.due("setFrames(-1, 0)", x.setFrames(-1, 0), HopHomes.UNKNOWN);
        Check.due("the acts are recorded alone", x.count(14), 2);
        Check.due("addPage(0)", x.addPage(0), 0);
        Check.due("addPage(0)", x.addPage(0), 1);
        Check.due("fewer frames than are taken", x.setFrames(0, 1), 20);
        Check.due("pages stay", x.home(0, 1), 2);
        Check.due("free frames are never negative", x.home(0, 3), 0);
    }

    private static void addPage() {
        HopHomes x = new HopHomes();
        Check.due("addPage(4)", x.addPage(4), HopHomes.UNKNOWN);
        Check.due("addPage(-1)", x.addPage(-1), HopHomes.UNKNOWN);
        for (int home = 0; home < 4; home++) {
            x.setFrames(home, 11);
        }
        for (int page = 0; page < 40; page++) {
            Check.due("addPage", x.addPage(page % 4), page);
            Check.due("the home of a new page", x.page(page, 0), page % 4);
        }
        Check.due("the 41st page", x.addPage(0), HopHomes.FULL);
        Check.due("the 41st page, unknown home", x.addPage(9), HopHomes.UNKNOWN);
        x.setFrames(2, 10);
        Check.due("the 41st page in a full home", x.addPage(2), HopHomes.FULL);
        Check.due("pages", x.count(1), 40);
        Check.due("pages in a home", x.home(3, 1), 10);
    }

    private static void addPageToFullHome() {
        HopHomes x = Check.make(Check.at(0, 1), Check.at(1));
        x.set(0, 2);
        x.set(2, 1);
        Check.due("a copy in home 1", x.read(0, 0), 21);
        x.setFrames(1, 2);
        int states = x.count(14);
        Check.due("a page for which a copy does not give way", x.addPage(1), HopHomes.NOT_POSSIBLE);
        Check.due("the copy stays", x.page(0, 1), 2);
        Check.due("no state for it", x.count(14), states);
        x.setFrames(1, 1);
        Check.due("more taken than there are", x.addPage(1), HopHomes.NOT_POSSIBLE);
        x.setFrames(1, 3);
        Check.due("a frame is free", x.addPage(1), 2);
        Check.due("a page that was undone", x.undo(), 3);
        Check.due("its number again", x.addPage(3), 2);
        Check.due("its home", x.page(2, 0), 3);
    }

    private static void addThread() {
        HopHomes x = new HopHomes();
        Check.due("addThread(4)", x.addThread(4), HopHomes.UNKNOWN);
        Check.due("addThread(-1)", x.addThread(-1), HopHomes.UNKNOWN);
        for (int thread = 0; thread < 8; thread++) {
            Check.due("addThread", x.addThread(3 - thread % 4), thread);
            Check.due("the home of a new thread", x.thread(thread, 0), 3 - thread % 4);
        }
        Check.due("the ninth thread", x.addThread(0), HopHomes.FULL);
        Check.due("the ninth thread, unknown home", x.addThread(4), HopHomes.UNKNOWN);
        Check.due("threads", x.count(2), 8);
        Check.due("threads at a home", x.home(1, 4), 2);
    }

    private static void go() {
        HopHomes x = Check.make(Check.at(), Check.at(2));
        Check.due("go(0, 3)", x.go(0, 3), 2);
        Check.due("go(0, 3) again", x.go(0, 3), HopHomes.NONE);
        Check.due("where it is", x.thread(0, 0), 3);
        Check.due("go(0, 4)", x.go(0, 4), HopHomes.UNKNOWN);
        Check.due("go(0, -1)", x.go(0, -1), HopHomes.UNKNOWN);
        Check.due("go(1, 0)", x.go(1, 0), HopHomes.UNKNOWN);
        Check.due("go(-1, 0)", x.go(-1, 0), HopHomes.UNKNOWN);
        Check.due("states", x.count(14), 2);
        Check.due("going is no access", x.count(0), 0);
        Check.due("going costs nothing", x.thread(0, 1), 0);
        x.undo();
        Check.due("where it was", x.thread(0, 0), 2);
    }

    private static void set() {
        HopHomes x = new HopHomes();
        Check.due("set(0, 3)", x.set(0, 3), 0);
        Check.due("set(0, 3) again", x.set(0, 3), HopHomes.NONE);
        Check.due("set(0, 4)", x.set(0, 4), HopHomes.BAD_VALUE);
        Check.due("set(0, -1)", x.set(0, -1), HopHomes.BAD_VALUE);
        Check.due("set(1, 0)", x.set(1, 0), 5);
        Check.due("set(1, 99)", x.set(1, 99), 0);
        Check.due("set(1, 100)", x.set(1, 100), HopHomes.BAD_VALUE);
        Check.due("set(1, -1)", x.set(1, -1), HopHomes.BAD_VALUE);
        Check.due("states", x.count(14), 3);
        Check.due("set(2, 99)", x.set(2, 99), 4);
        Check.due("set(2, 1)", x.set(2, 1), 99);
        Check.due("set(2, 0)", x.set(2, 0), HopHomes.BAD_VALUE);
        Check.due("set(2, 100)", x.set(2, 100), HopHomes.BAD_VALUE);
        Check.due("set(3, 1)", x.set(3, 1), HopHomes.BAD_VALUE);
        Check.due("set(-1, 1)", x.set(-1, 1), HopHomes.BAD_VALUE);
        Check.due("the policy", x.count(11), 3);
        Check.due("the toll", x.count(12), 99);
        Check.due("the threshold", x.count(13), 1);
    }
}
