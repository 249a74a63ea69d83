/** Promises 13 to 15: undo, keep, restore. */
public final class HistoryTest {
    public static void main(String[] args) {
        fourStates();
        errorsAreNotRecorded();
        undoOfEachAct();
        undoOfMovingAndCopying();
        undoOfTotals();
        undoOfFreezing();
        keeping();
        restoringIsAnAct();
        snapshotStaysBehindUndo();
        Check.end();
    }

    private static void fourStates() {
        HopHomes x = Check.make(Check.at(), Check.at(0));
        for (int home = 1; home < 4; home++) {
            x.go(0, home);
        }
        Check.due("states", x.count(14), 4);
        x.go(0, 0);
        x.go(0, 2);
        Check.due("never more than 4", x.count(14), 4);
        Check.due("undo", x.undo(), 3);
        Check.due("where it was", x.thread(0, 0), 0);
        Check.due("undo", x.undo(), 2);
        Check.due("where it was", x.thread(0, 0), 3);
        x.go(0, 0);
        Check.due("an act behind an undo", x.count(14), 3);
        Check.due("undo", x.undo(), 2);
        Check.due("where it was", x.thread(0, 0), 3);
        Check.due("undo", x.undo(), 1);
        Check.due("where it was", x.thread(0, 0), 2);
        Check.due("undo", x.undo(), 0);
        Check.due("where it was", x.thread(0, 0), 1);
        Check.due("undo of nothing", x.undo(), HopHomes.NONE);
        Check.due("where it is", x.thread(0, 0), 1);
    }

    private static void errorsAreNotRecorded() {
        HopHomes x = new HopHomes();
        x.setFrames(0, 8);
        x.setFrames(9, 9);
        x.addPage(7);
        x.addThread(7);
        x.go(0, 0);
        x.set(0, 0);
        x.set(0, 9);
        x.read(0, 0);
        x.write(0, 0);
        x.fade();
        x.perform();
        x.restore();
        x.keep();
        x.type('r');
        x.clearText();
        Check.due("nothing was an act", x.count(14), 0);
    }

    private static void undoOfEachAct() {
        HopHomes x = new HopHomes();
        x.setFrames(2, 5);
        x.undo();
        Check.due("frames", x.home(2, 0), 8);
        x.addPage(2);
        x.undo();
        Check.due("pages", x.count(1), 0);
        Check.due("page 0", x.page(0, 0), HopHomes.UNKNOWN);
        x.addThread(2);
        x.undo();
        Check.due("threads", x.count(2), 0);
        for (int what = 0; what < 3; what++) {
            int was = x.count(11 + what);
            x.set(what, 3);
            x.undo();
            Check.due("setting " + what, x.count(11 + what), was);
        }
        Check.due("all is undone", x.undo(), HopHomes.NONE);
    }

    private static void undoOfMovingAndCopying() {
        HopHomes x = Check.make(Check.at(0), Check.at(1));
        x.set(0, 3);
        x.set(2, 1);
        x.read(0, 0);
        x.read(0, 0);
        Check.due("moved", x.page(0, 0), 1);
        Check.due("undo", x.undo(), 3);
        Check.due("where it was", x.page(0, 0), 0);
        Check.due("copies", x.page(0, 1), 2);
        Check.due("accesses", x.page(0, 2), 1);
        Check.due("movings", x.count(6), 0);
        Check.due("gave way", x.count(8), 0);
        Check.due("the first to give way", x.home(1, 5), 0);
        Check.due("the log", x.event(0, 0), 1);
        Check.due("the log", x.event(1, 0), HopHomes.NONE);
        Check.due("paid", x.thread(0, 1), 21);
        Check.due("hops", x.thread(0, 2), 2);
        Check.due("the time", x.count(0), 1);
        Check.due("undo", x.undo(), 2);
        Check.due("no copies", x.page(0, 1), 0);
        Check.due("counters", x.page(0, 11), 0);
        Check.due("hops of the page", x.page(0, 7), 0);
        Check.due("reads", x.thread(0, 3), 0);
        Check.due("the log", x.event(0, 0), HopHomes.NONE);
        Check.due("once more", x.read(0, 0), 21);
    }

    private static void undoOfTotals() {
        HopHomes x = Check.make(Check.at(0, 0, 1), Check.at(1));
        x.set(0, 2);
        x.set(2, 1);
        x.setFrames(1, 2);
        x.read(0, 0);
        Check.due("a copy for a copy", x.read(0, 1), 21);
        Check.due("made", x.count(7), 2);
        Check.due("gave way", x.count(8), 1);
        x.undo();
        Check.due("made before", x.count(7), 1);
        Check.due("gave way before", x.count(8), 0);
        Check.due("the copy is back", x.home(1, 5), 0);
        x.setFrames(1, 1);
        x.read(0, 1);
        Check.due("denials", x.count(9), 1);
        x.undo();
        Check.due("denials before", x.count(9), 0);
        x.write(0, 2);
        Check.due("writes", x.thread(0, 4), 1);
        x.undo();
        Check.due("writes before", x.thread(0, 4), 0);
        Check.due("never written", x.page(2, 6), HopHomes.NONE);
    }

    /** The page is read by turns from both homes, so that it moves each time. */
    private static void undoOfFreezing() {
        HopHomes x = Check.make(Check.at(0), Check.at(0, 1));
        x.set(0, 1);
        x.set(2, 1);
        Check.due("moved to 1", x.read(1, 0), 21);
        Check.due("moved to 0", x.read(0, 0), 21);
        x.keep();
        Check.due("moved to 1 and frozen", x.read(1, 0), 21);
        Check.due("frozen", x.page(0, 5), 30);
        Check.due("not moved", x.read(0, 0), 6);
        Check.due("frozen", x.page(0, 5), 29);
        x.undo();
        Check.due("frozen as before", x.page(0, 5), 30);
        x.undo();
        Check.due("not frozen before", x.page(0, 5), 0);
        Check.due("no frozen page", x.count(10), 0);
        Check.due("moved and frozen again", x.read(1, 0), 21);
        Check.due("frozen", x.page(0, 5), 30);
        x.restore();
        Check.due("not frozen when it was kept", x.page(0, 5), 0);
        Check.due("moved and frozen once more", x.read(1, 0), 21);
        Check.due("frozen", x.page(0, 5), 30);
        Check.due("movings", x.page(0, 4), 3);

        // A state in which the page had not moved yet must forget the movings behind it.
        HopHomes y = Check.make(Check.at(0), Check.at(0, 1));
        y.set(0, 1);
        y.set(2, 1);
        y.keep();
        y.read(1, 0);
        y.read(0, 0);
        y.restore();
        Check.due("the first moving", y.read(1, 0), 21);
        Check.due("is not the third", y.page(0, 5), 0);
        Check.due("the second moving", y.read(0, 0), 21);
        Check.due("is not the third", y.page(0, 5), 0);
        Check.due("the third moving", y.read(1, 0), 21);
        Check.due("freezes", y.page(0, 5), 30);
    }

    private static void keeping() {
        HopHomes x = Check.make(Check.at(0), Check.at(1));
        Check.due("keep at time 0", x.keep(), 0);
        x.read(0, 0);
        Check.due("keep at time 1", x.keep(), 1);
        Check.due("keeping is no act", x.count(14), 3);
        x.write(0, 0);
        x.write(0, 0);
        Check.due("restore", x.restore(), 1);
        Check.due("writes", x.page(0, 3), 0);
        Check.due("reads", x.thread(0, 3), 1);
        x.read(0, 0);
        Check.due("restore again", x.restore(), 1);
        Check.due("the time", x.count(0), 1);
    }

    private static void restoringIsAnAct() {
        HopHomes x = Check.make(Check.at(0), Check.at(1));
        x.keep();
        x.write(0, 0);
        Check.due("states", x.count(14), 3);
        Check.type(x, "abc");
        Check.due("restore", x.restore(), 0);
        Check.due("states", x.count(14), 4);
        Check.due("the text stays", x.count(15), 3);
        Check.due("undo of restore", x.undo(), 3);
        Check.due("the write is back", x.page(0, 3), 1);
        Check.due("the time is back", x.count(0), 1);
    }

    private static void snapshotStaysBehindUndo() {
        HopHomes x = Check.make(Check.at(3), Check.at(3));
        x.set(1, 42);
        x.keep();
        x.undo();
        Check.due("the toll that was", x.count(12), 5);
        Check.due("restore", x.restore(), 0);
        Check.due("the toll that was kept", x.count(12), 42);
        HopHomes y = new HopHomes();
        y.keep();
        y.addPage(1);
        Check.due("restore of the empty state", y.restore(), 0);
        Check.due("no pages", y.count(1), 0);
        Check.due("no snapshot in another object", new HopHomes().restore(), HopHomes.NONE);
    }
}
