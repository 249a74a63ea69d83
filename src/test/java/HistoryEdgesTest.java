/** Edges of the history (at most 4 states), of undo, and of the snapshot. */
public final class HistoryEdgesTest {
    public static void main(String[] args) {
        statesOneByOne();
        oldestIsDropped();
        emptyAgain();
        actsBehindUndos();
        eachActRecordsOne();
        noActRecordsNone();
        eachActIsUndone();
        fourActsAreUndone();
        undoOfABusyState();
        undoOfGivingWay();
        undoOfLatestUses();
        undoLeavesTextAndSnapshot();
        noSnapshotAtFirst();
        snapshotOfANewObject();
        latestSnapshotCounts();
        snapshotStays();
        restoreWhereNothingChanged();
        restoreGivesBackAll();
        addedAgainBehindRestore();
        restoreIsUndone();
        textIsNoPartOfAState();
        manyCalls();
        Check.end();
    }

    private static void statesOneByOne() {
        HopHomes x = new HopHomes();
        Check.due("no states", x.count(14), 0);
        for (int act = 1; act <= 12; act++) {
            x.set(1, 10 + act);
            Check.due("at most 4", x.count(14), Math.min(act, 4));
        }
    }

    /** Behind n acts, at most 4 of them are undone, and the last undo gives back the oldest state. */
    private static void oldestIsDropped() {
        for (int acts = 0; acts <= 9; acts++) {
            HopHomes x = new HopHomes();
            for (int act = 1; act <= acts; act++) {
                x.set(1, 10 + act);
            }
            int toll = acts;
            for (int left = Math.min(acts, 4) - 1; left >= 0; left--) {
                Check.due("states left", x.undo(), left);
                toll--;
                Check.due("the toll", x.count(12), toll == 0 ? 5 : 10 + toll);
                Check.due("states", x.count(14), left);
            }
            Check.due("none left", x.undo(), HopHomes.NONE);
            Check.due("the toll stays", x.count(12), toll == 0 ? 5 : 10 + toll);
        }
    }

    private static void emptyAgain() {
        HopHomes x = new HopHomes();
        for (int round = 0; round < 3; round++) {
            x.addThread(0);
            Check.due("one state", x.count(14), 1);
            Check.due("none left", x.undo(), 0);
            Check.due("threads", x.count(2), 0);
            Check.due("none", x.undo(), HopHomes.NONE);
        }
    }

    private static void actsBehindUndos() {
        HopHomes x = new HopHomes();
        for (int toll = 11; toll <= 16; toll++) {
            x.set(1, toll);
        }
        x.undo();
        x.undo();
        x.set(1, 21);
        x.set(1, 22);
        Check.due("states", x.count(14), 4);
        x.set(1, 23);
        Check.due("states", x.count(14), 4);
        int[] due = {22, 21, 14, 13};
        for (int i = 0; i < due.length; i++) {
            Check.due("states left", x.undo(), 3 - i);
            Check.due("the toll", x.count(12), due[i]);
        }
        Check.due("none left", x.undo(), HopHomes.NONE);
    }

    private static Twins.Call[] acts() {
        return new Twins.Call[] {
            x -> x.setFrames(2, 9), x -> x.addPage(1), x -> x.addThread(3), x -> x.go(0, 0),
            x -> x.set(0, 1), x -> x.set(1, 0), x -> x.set(2, 1), x -> x.read(0, 2),
            x -> x.write(1, 0), HopHomes::fade, HopHomes::perform, HopHomes::restore};
    }

    /** One state in the history, a snapshot, counters and a text that is a trace. */
    private static HopHomes ready() {
        HopHomes x = States.quiet();
        x.read(0, 1);
        x.write(1, 1);
        x.keep();
        for (int left = 3; left >= 0; left--) {
            Check.due("states left", x.undo(), left);
        }
        Check.type(x, "r0.1;w1.2;g0.3;w0.0");
        Check.due("the snapshot", x.restore(), 2);
        Check.due("one state", x.count(14), 1);
        return x;
    }

    private static void eachActRecordsOne() {
        int number = 0;
        for (Twins.Call act : acts()) {
            HopHomes x = ready();
            number++;
            Check.holds("act " + number + " is done", act.on(x) >= 0);
            Check.due("act " + number + " records one", x.count(14), 2);
        }
    }

    private static void noActRecordsNone() {
        Twins.Call[] calls = {
            x -> x.type(';'), HopHomes::clearText, HopHomes::keep, x -> x.home(0, 0),
            x -> x.page(0, 0), x -> x.thread(0, 0), x -> x.hops(0, 1), x -> x.wouldPay(0, 0, true),
            x -> x.trial(3), HopHomes::bestPolicy, x -> x.bestHome(0), x -> x.count(14)};
        int number = 0;
        for (Twins.Call call : calls) {
            HopHomes x = ready();
            number++;
            Check.holds("call " + number + " is answered", call.on(x) >= 0);
            Check.due("call " + number + " records none", x.count(14), 1);
        }
        HopHomes x = ready();
        x.undo();
        Check.due("undo takes one", x.count(14), 0);
    }

    private static void eachActIsUndone() {
        int number = 0;
        for (Twins.Call act : acts()) {
            number++;
            Twins.alike("act " + number + " undone", () -> {
                HopHomes x = ready();
                act.on(x);
                Check.due("one state left", x.undo(), 1);
                return x;
            }, HistoryEdgesTest::ready);
        }
    }

    private static void fourActsAreUndone() {
        Twins.Call[] acts = acts();
        for (int first = 0; first < acts.length; first++) {
            int start = first;
            Twins.alikeButHistory("four acts undone from act " + first, () -> {
                HopHomes x = ready();
                for (int i = 0; i < 4; i++) {
                    Check.holds("an act", acts[(start + i) % acts.length].on(x) >= 0);
                }
                for (int left = 3; left >= 0; left--) {
                    Check.due("states left", x.undo(), left);
                }
                return x;
            }, HistoryEdgesTest::ready);
        }
    }

    /** With copies, a frozen page and a full log: all of it comes back. */
    private static void undoOfABusyState() {
        Twins.Call[] acts = {
            x -> x.read(0, 0), x -> x.write(0, 0), x -> x.read(1, 4), x -> x.write(1, 4),
            x -> x.read(1, 1), x -> x.write(0, 1), x -> x.read(0, 3), x -> x.write(1, 2),
            HopHomes::fade, HopHomes::perform, HopHomes::restore};
        for (Twins.Call act : acts) {
            Twins.alikeButHistory("an act undone", () -> {
                HopHomes x = States.busy();
                Check.holds("an act", act.on(x) >= 0);
                Check.due("states left", x.undo(), 3);
                return x;
            }, States::busy);
        }
    }

    /** Home 1 is full with page 2 and a copy of page 0. */
    private static HopHomes crowded() {
        HopHomes x = Check.make(Check.at(0, 0, 1), Check.at(1));
        x.set(0, 3);
        x.set(2, 1);
        x.setFrames(1, 2);
        x.read(0, 0);
        return x;
    }

    private static void undoOfGivingWay() {
        HopHomes copied = crowded();
        Check.due("copied", copied.read(0, 1), 21);
        HopHomes moved = crowded();
        Check.due("moved", moved.write(0, 1), 21);
        for (HopHomes x : new HopHomes[] {copied, moved}) {
            Check.due("the copy gave way", x.count(8), 1);
            Check.due("undo", x.undo(), 3);
            Check.due("it did not", x.count(8), 0);
            Check.due("the copy is there", x.page(0, 1), 2);
        }
        Twins.Call[] acts = {x -> x.read(0, 1), x -> x.write(0, 1)};
        for (Twins.Call act : acts) {
            Twins.alikeButHistory("giving way undone", () -> {
                HopHomes x = crowded();
                act.on(x);
                x.undo();
                return x;
            }, HistoryEdgesTest::crowded);
        }
    }

    /** Which copy gives way first is of the state, and comes back with it. */
    private static void undoOfLatestUses() {
        HopHomes x = Check.make(Check.at(0, 0), Check.at(1));
        x.set(0, 2);
        x.set(2, 1);
        x.read(0, 0);
        x.read(0, 1);
        x.keep();
        Check.due("the first to give way", x.home(1, 5), 0);
        x.read(0, 0);
        Check.due("the other one", x.home(1, 5), 1);
        x.undo();
        Check.due("the first one again", x.home(1, 5), 0);
        x.read(0, 0);
        Check.due("the other one", x.home(1, 5), 1);
        x.restore();
        Check.due("the first one again", x.home(1, 5), 0);
        x.undo();
        Check.due("the other one", x.home(1, 5), 1);
    }

    private static void undoLeavesTextAndSnapshot() {
        HopHomes x = Check.make(Check.at(1), Check.at(1));
        x.read(0, 0);
        Check.type(x, "r0.0");
        x.keep();
        x.read(0, 0);
        while (x.undo() > 0) {
            Check.due("the text stays", x.count(15), 4);
        }
        Check.due("nothing is there any more", x.count(1), 0);
        Check.due("restore", x.restore(), 1);
        Check.due("accesses", x.page(0, 2), 1);
        Check.due("the text is what it was", x.perform(), 1);
    }

    private static void noSnapshotAtFirst() {
        HopHomes x = new HopHomes();
        Check.due("none", x.restore(), HopHomes.NONE);
        x.addPage(0);
        Check.due("none", x.restore(), HopHomes.NONE);
        x.undo();
        Check.due("none", x.restore(), HopHomes.NONE);
        Check.due("keep", x.keep(), 0);
        Check.due("one", x.restore(), 0);
    }

    private static void snapshotOfANewObject() {
        Twins.alikeButHistory("the first state restored", () -> {
            HopHomes x = new HopHomes();
            x.keep();
            x.addPage(2);
            x.addThread(1);
            x.setFrames(0, 3);
            x.set(0, 2);
            x.set(2, 1);
            x.read(0, 0);
            Check.due("restore", x.restore(), 0);
            return x;
        }, () -> {
            HopHomes x = new HopHomes();
            x.keep();
            return x;
        });
    }

    private static void latestSnapshotCounts() {
        HopHomes x = Check.make(Check.at(0), Check.at(0));
        for (int time = 0; time <= 3; time++) {
            Check.due("keep", x.keep(), time);
            x.write(0, 0);
            Check.due("restore", x.restore(), time);
            x.write(0, 0);
        }
        Check.due("restore of the latest one", x.restore(), 3);
        Check.due("writes", x.page(0, 3), 3);
    }

    private static void snapshotStays() {
        HopHomes x = States.busy();
        int time = x.keep();
        for (int i = 0; i < 3; i++) {
            x.write(0, 0);
            x.read(1, 1);
            x.fade();
            Check.due("restore", x.restore(), time);
            Check.due("the time", x.count(0), time);
        }
        Twins.alikeButHistory("restored again and again", () -> {
            HopHomes y = States.busy();
            y.keep();
            for (int i = 0; i < 3; i++) {
                y.write(0, 0);
                y.restore();
            }
            return y;
        }, () -> {
            HopHomes y = States.busy();
            y.keep();
            return y;
        });
    }

    /** Restoring what is there already is an act, and no NONE. */
    private static void restoreWhereNothingChanged() {
        HopHomes x = new HopHomes();
        x.keep();
        Check.due("restore", x.restore(), 0);
        Check.due("states", x.count(14), 1);
        Check.due("restore", x.restore(), 0);
        Check.due("states", x.count(14), 2);
        Check.due("undo", x.undo(), 1);
    }

    private static void restoreGivesBackAll() {
        Twins.alikeButHistory("a busy state restored", () -> {
            HopHomes x = States.busy();
            x.keep();
            for (int i = 0; i < 12; i++) {
                x.write(i % 2, i % 5);
                x.read(i % 2, (i + 2) % 5);
            }
            x.go(0, 0);
            x.setFrames(0, 2);
            x.addThread(1);
            x.addPage(0);
            x.set(0, 0);
            x.set(1, 50);
            x.set(2, 50);
            x.fade();
            x.restore();
            return x;
        }, () -> {
            HopHomes x = States.busy();
            x.keep();
            return x;
        });
    }

    /** A page and a thread that a restore took away are as new when they are added again. */
    private static void addedAgainBehindRestore() {
        Twins.alikeButHistory("added again", () -> {
            HopHomes x = Check.make(Check.at(1), Check.at(1));
            x.keep();
            x.addPage(2);
            x.addThread(0);
            x.set(0, 3);
            x.set(2, 1);
            for (int i = 0; i < 4; i++) {
                x.read(1, 1);
                x.write(0, 1);
                x.read(1, 1);
            }
            x.restore();
            Check.due("the page again", x.addPage(3), 1);
            Check.due("the thread again", x.addThread(2), 1);
            return x;
        }, () -> {
            HopHomes x = Check.make(Check.at(1), Check.at(1));
            x.keep();
            x.addPage(3);
            x.addThread(2);
            return x;
        });
    }

    private static void restoreIsUndone() {
        HopHomes x = Check.make(Check.at(0), Check.at(0));
        x.keep();
        x.write(0, 0);
        Check.due("restore", x.restore(), 0);
        Check.due("undo of restore", x.undo(), 3);
        Check.due("the time", x.count(0), 1);
        Check.due("writes", x.page(0, 3), 1);
        Check.due("restore again", x.restore(), 0);
        x.write(0, 0);
        Check.due("undo of the write", x.undo(), 3);
        Check.due("undo of restore", x.undo(), 2);
        Check.due("undo of the first write", x.undo(), 1);
        Check.due("writes", x.page(0, 3), 0);
    }

    private static void textIsNoPartOfAState() {
        HopHomes x = Check.make(Check.at(0), Check.at(0));
        Check.type(x, "r0.0");
        x.perform();
        x.keep();
        Check.type(x, "w0.0;w0.0");
        x.undo();
        Check.due("the text", x.count(15), 9);
        x.restore();
        Check.due("the text", x.count(15), 9);
        Check.due("two writes", x.perform(), 2);
        Check.due("writes", x.page(0, 3), 2);
        x.clearText();
        x.undo();
        Check.due("the empty text", x.count(15), 0);
    }

    /** The 512th call is promised as the first one is. */
    private static void manyCalls() {
        HopHomes x = Check.make(Check.at(0), Check.at(0, 1));
        x.set(0, 1);
        x.set(2, 1);
        for (int call = 6; call <= 506; call++) {
            x.write(call % 2, 0);
        }
        Check.due("call 507, the time", x.count(0), 501);
        for (int left = 3; left >= 0; left--) {
            Check.due("calls 508 to 511", x.undo(), left);
        }
        Check.due("call 512", x.page(0, 3), 497);
    }
}
