/** Edges of the log: the latest 10 events, each kind with its page, home and time. */
public final class LogEdgesTest {
    public static void main(String[] args) {
        emptyLog();
        oneEvent();
        nineTenEleven();
        manyEventsOfOneAccess();
        moreThanTenOfOneAccess();
        eachKind();
        timesOfATrace();
        whatMakesNoEvent();
        undoneEvents();
        Check.end();
    }

    /** Page 0 in home 0 and page 1 in home 1, which is full, so that movings are denied. */
    private static HopHomes denying() {
        HopHomes x = Check.make(Check.at(0, 1), Check.at(1));
        x.setFrames(1, 1);
        x.set(0, 1);
        x.set(2, 1);
        return x;
    }

    private static void none(HopHomes x, int back) {
        for (int what = 0; what <= 3; what++) {
            Check.due("event(" + back + ", " + what + ")", x.event(back, what), HopHomes.NONE);
        }
    }

    private static void event(HopHomes x, int back, int... due) {
        for (int what = 0; what <= 3; what++) {
            Check.due("event(" + back + ", " + what + ")", x.event(back, what), due[what]);
        }
    }

    private static void emptyLog() {
        HopHomes x = denying();
        for (int back : new int[] {0, 1, 9, 10, Integer.MAX_VALUE}) {
            none(x, back);
        }
        x.set(0, 0);
        x.read(0, 0);
        none(x, 0);
    }

    private static void oneEvent() {
        HopHomes x = denying();
        x.write(0, 0);
        event(x, 0, 5, 0, 1, 1);
        none(x, 1);
        none(x, 9);
    }

    /** One denial at each time: the oldest one that is still known, and the first that is not. */
    private static void nineTenEleven() {
        HopHomes x = denying();
        for (int time = 1; time <= 25; time++) {
            x.write(0, 0);
            for (int back = 0; back < Math.min(time, 10); back++) {
                event(x, back, 5, 0, 1, time - back);
            }
            none(x, Math.min(time, 10));
            if (time > 10) {
                none(x, time - 1);
            }
            if (time == 9 || time == 10 || time == 11) {
                Check.due("denials are counted on", x.count(9), time);
            }
            x = time % 5 == 0 ? again(time) : x;
        }
    }

    /** The same object anew, so that none is called more often than the document promises. */
    private static HopHomes again(int accesses) {
        HopHomes x = denying();
        for (int i = 0; i < accesses; i++) {
            x.write(0, 0);
        }
        return x;
    }

    private static void manyEventsOfOneAccess() {
        HopHomes x = Check.make(Check.at(0), Check.at(0, 1, 2, 3));
        x.set(0, 2);
        x.set(2, 1);
        for (int thread = 1; thread <= 3; thread++) {
            x.read(thread, 0);
        }
        x.write(0, 0);
        event(x, 0, 3, 0, 3, 4);
        event(x, 1, 3, 0, 2, 4);
        event(x, 2, 3, 0, 1, 4);
        event(x, 3, 1, 0, 3, 3);
        event(x, 4, 1, 0, 2, 2);
        event(x, 5, 1, 0, 1, 1);
        none(x, 6);
    }

    /** Eleven copies give way for one: only the latest ten events of that access are known. */
    private static void moreThanTenOfOneAccess() {
        HopHomes x = new HopHomes();
        x.setFrames(0, 20);
        x.setFrames(1, 20);
        for (int page = 0; page < 12; page++) {
            x.addPage(0);
        }
        x.addThread(1);
        x.set(0, 2);
        x.set(2, 1);
        for (int page = 0; page < 11; page++) {
            x.read(0, page);
        }
        event(x, 9, 1, 1, 1, 2);
        none(x, 10);
        x.setFrames(1, 1);
        x.read(0, 11);
        Check.due("gave way", x.count(8), 11);
        event(x, 0, 1, 11, 1, 12);
        for (int back = 1; back <= 9; back++) {
            event(x, back, 2, 11 - back, 1, 12);
        }
        none(x, 10);
    }

    private static void eachKind() {
        HopHomes x = Check.make(Check.at(0, 3, 3), Check.at(0, 3));
        x.set(0, 1);
        x.set(2, 1);
        x.write(0, 1);
        event(x, 0, 0, 1, 0, 1);
        x.set(0, 2);
        x.read(1, 0);
        event(x, 0, 1, 0, 3, 2);
        x.write(0, 0);
        event(x, 0, 3, 0, 3, 3);
        x.setFrames(3, 1);
        x.set(0, 1);
        x.fade();
        x.read(1, 1);
        event(x, 0, 5, 1, 3, 4);
        x.setFrames(3, 2);
        x.set(0, 2);
        for (int i = 0; i < 7; i++) {
            x.read(0, 0);
        }
        x.read(1, 0);
        event(x, 0, 1, 0, 3, 12);
        x.set(0, 1);
        x.write(1, 1);
        event(x, 0, 0, 1, 3, 13);
        event(x, 1, 2, 0, 3, 13);
        x.fade();
        x.write(0, 1);
        event(x, 0, 4, 1, 0, 14);
        event(x, 1, 0, 1, 0, 14);
    }

    private static void timesOfATrace() {
        HopHomes x = denying();
        Check.type(x, "w0.0;w0.1;g0.1;r0.0");
        x.perform();
        event(x, 0, 5, 0, 1, 3);
        event(x, 1, 5, 0, 1, 1);
        none(x, 2);
    }

    private static void whatMakesNoEvent() {
        HopHomes x = denying();
        Check.type(x, "w0.0;w0.0");
        x.trial(1);
        x.trial(3);
        x.bestPolicy();
        x.wouldPay(0, 0, true);
        x.fade();
        x.setFrames(0, 1);
        Check.due("a full home", x.addPage(0), HopHomes.NOT_POSSIBLE);
        x.go(0, 0);
        x.keep();
        x.restore();
        none(x, 0);
    }

    private static void undoneEvents() {
        HopHomes x = denying();
        for (int i = 0; i < 11; i++) {
            x.write(0, 0);
        }
        x.keep();
        event(x, 9, 5, 0, 1, 2);
        x.undo();
        event(x, 0, 5, 0, 1, 10);
        event(x, 9, 5, 0, 1, 1);
        x.undo();
        event(x, 8, 5, 0, 1, 1);
        none(x, 9);
        x.restore();
        event(x, 0, 5, 0, 1, 11);
        event(x, 9, 5, 0, 1, 2);
        none(x, 10);
    }
}
