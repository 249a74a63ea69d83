/** Promises 16 to 20 and 23 to 25: home, page, thread, hops, wouldPay, bestHome, event, count. */
public final class TellingTest {
    private static final int[] EXTREMES = {-1, Integer.MIN_VALUE, Integer.MAX_VALUE, 100};

    public static void main(String[] args) {
        ofHome();
        ofPage();
        ofThread();
        ofHops();
        ofWouldPay();
        ofBestHome();
        ofEvents();
        ofTenEvents();
        ofCounts();
        Check.end();
    }

    private static void ofHome() {
        HopHomes x = Check.make(Check.at(0, 0, 3), Check.at(3, 3, 1));
        x.set(0, 2);
        x.set(2, 1);
        x.read(0, 0);
        x.read(0, 1);
        int[] due = {8, 1, 2, 5, 2, 0};
        for (int what = 0; what < 6; what++) {
            Check.due("home(3, " + what + ")", x.home(3, what), due[what]);
        }
        Check.due("home(3, 6)", x.home(3, 6), HopHomes.BAD_VALUE);
        Check.due("home(4, 0)", x.home(4, 0), HopHomes.UNKNOWN);
        for (int wrong : EXTREMES) {
            Check.due("home(3, " + wrong + ")", x.home(3, wrong), HopHomes.BAD_VALUE);
            Check.due("home(" + wrong + ", 0)", x.home(wrong, 0), HopHomes.UNKNOWN);
            Check.due("unknown ahead of bad", x.home(wrong, wrong), HopHomes.UNKNOWN);
        }
        x.setFrames(3, 1);
        Check.due("free frames", x.home(3, 3), 0);
        Check.due("copies", x.home(3, 2), 2);
    }

    private static void ofPage() {
        HopHomes x = Check.make(Check.at(2, 2), Check.at(1, 2));
        Check.due("never written", x.page(1, 6), HopHomes.NONE);
        x.write(0, 1);
        Check.due("just written", x.page(1, 6), 0);
        x.read(1, 1);
        x.read(1, 1);
        x.read(1, 0);
        Check.due("written 2 accesses ago", x.page(1, 6), 2);
        int[] due = {2, 0, 3, 1, 0, 0, 2, 1};
        for (int what = 0; what < 8; what++) {
            Check.due("page(1, " + what + ")", x.page(1, what), due[what]);
        }
        int[] counters = {0, 2, 2, 0};
        for (int home = 0; home < 4; home++) {
            Check.due("counter " + home, x.page(1, 10 + home), counters[home]);
        }
        for (int wrong : new int[] {8, 9, 14}) {
            Check.due("page(1, " + wrong + ")", x.page(1, wrong), HopHomes.BAD_VALUE);
        }
        Check.due("page(2, 0)", x.page(2, 0), HopHomes.UNKNOWN);
        for (int wrong : EXTREMES) {
            Check.due("page(1, " + wrong + ")", x.page(1, wrong), HopHomes.BAD_VALUE);
            Check.due("page(" + wrong + ", 0)", x.page(wrong, 0), HopHomes.UNKNOWN);
            Check.due("unknown ahead of bad", x.page(wrong, wrong), HopHomes.UNKNOWN);
        }
    }

    private static void ofThread() {
        HopHomes x = Check.make(Check.at(0), Check.at(1, 3));
        x.read(1, 0);
        x.read(1, 0);
        x.write(1, 0);
        int[] due = {3, 18, 3, 2, 1};
        for (int what = 0; what < 5; what++) {
            Check.due("thread(1, " + what + ")", x.thread(1, what), due[what]);
        }
        Check.due("thread(1, 5)", x.thread(1, 5), HopHomes.BAD_VALUE);
        Check.due("thread(2, 0)", x.thread(2, 0), HopHomes.UNKNOWN);
        for (int wrong : EXTREMES) {
            Check.due("thread(1, " + wrong + ")", x.thread(1, wrong), HopHomes.BAD_VALUE);
            Check.due("thread(" + wrong + ", 0)", x.thread(wrong, 0), HopHomes.UNKNOWN);
            Check.due("unknown ahead of bad", x.thread(wrong, wrong), HopHomes.UNKNOWN);
        }
    }

    private static void ofHops() {
        HopHomes x = new HopHomes();
        int[][] due = {{0, 1, 2, 1}, {1, 0, 1, 2}, {2, 1, 0, 1}, {1, 2, 1, 0}};
        for (int one = 0; one < 4; one++) {
            for (int other = 0; other < 4; other++) {
                Check.due("hops(" + one + ", " + other + ")", x.hops(one, other), due[one][other]);
            }
            Check.due("hops to 4", x.hops(one, 4), HopHomes.UNKNOWN);
            Check.due("hops from 4", x.hops(4, one), HopHomes.UNKNOWN);
            for (int wrong : EXTREMES) {
                Check.due("hops to " + wrong, x.hops(one, wrong), HopHomes.UNKNOWN);
                Check.due("hops from " + wrong, x.hops(wrong, one), HopHomes.UNKNOWN);
            }
        }
    }

    private static void ofWouldPay() {
        HopHomes x = Check.make(Check.at(0), Check.at(2, 3));
        x.set(2, 1);
        x.set(0, 2);
        Check.due("reading, without the copying", x.wouldPay(0, 0, false), 11);
        Check.due("reading, with the copying", x.read(0, 0), 31);
        Check.due("reading the copy", x.wouldPay(0, 0, false), 1);
        Check.due("writing past the copy", x.wouldPay(0, 0, true), 21);
        Check.due("writing, from another home", x.wouldPay(1, 0, true), 16);
        Check.due("nothing changes", x.count(0), 1);
        Check.due("no state", x.count(14), 4);
        x.set(1, 0);
        Check.due("without a toll", x.wouldPay(1, 0, true), 1);
        x.set(1, 99);
        Check.due("with the highest toll", x.wouldPay(0, 0, true), 397);
        Check.due("as it is paid", x.write(0, 0), 397);
        for (int wrong : EXTREMES) {
            Check.due("thread " + wrong, x.wouldPay(wrong, 0, true), HopHomes.UNKNOWN);
            Check.due("page " + wrong, x.wouldPay(0, wrong, false), HopHomes.UNKNOWN);
        }
        Check.due("thread 2", x.wouldPay(2, 0, false), HopHomes.UNKNOWN);
        Check.due("page 1", x.wouldPay(0, 1, true), HopHomes.UNKNOWN);
    }

    private static void ofBestHome() {
        HopHomes x = Check.make(Check.at(3, 1), Check.at(0, 2));
        Check.due("where it lies, without counters", x.bestHome(0), 3);
        x.read(0, 1);
        x.read(1, 1);
        Check.due("all are the same, and it lies in 1", x.bestHome(1), 1);
        x.read(0, 0);
        Check.due("where it is read", x.bestHome(0), 0);
        x.read(1, 0);
        Check.due("0 to 3 are the same", x.bestHome(0), 3);
        // Counters 2, 0, 1, 0: the sums are 2, 3, 4, 3.
        x.read(0, 0);
        Check.due("the least sum", x.bestHome(0), 0);
        HopHomes y = Check.make(Check.at(0), Check.at(2, 3));
        y.read(0, 0);
        y.read(1, 0);
        // Counters 0, 0, 1, 1: the sums are 3, 3, 1, 1.
        Check.due("the lowest one", y.bestHome(0), 2);
        Check.due("page 2", x.bestHome(2), HopHomes.UNKNOWN);
        for (int wrong : EXTREMES) {
            Check.due("page " + wrong, x.bestHome(wrong), HopHomes.UNKNOWN);
        }
    }

    private static void ofEvents() {
        HopHomes x = new HopHomes();
        Check.due("event(0, 0)", x.event(0, 0), HopHomes.NONE);
        Check.due("event(-1, 0)", x.event(-1, 0), HopHomes.BAD_VALUE);
        Check.due("event(0, 4)", x.event(0, 4), HopHomes.BAD_VALUE);
        Check.due("event(0, -1)", x.event(0, -1), HopHomes.BAD_VALUE);
        Check.due("event(MAX, 3)", x.event(Integer.MAX_VALUE, 3), HopHomes.NONE);
        Check.due("event(MAX, 4)", x.event(Integer.MAX_VALUE, 4), HopHomes.BAD_VALUE);
        Check.due("event(MIN, 0)", x.event(Integer.MIN_VALUE, 0), HopHomes.BAD_VALUE);
    }

    private static void ofTenEvents() {
        HopHomes x = Check.make(Check.at(0, 1), Check.at(1));
        x.set(0, 1);
        x.set(2, 1);
        x.setFrames(1, 1);
        for (int time = 1; time <= 13; time++) {
            x.read(0, 0);
            int known = Math.min(10, time);
            for (int back = 0; back < known; back++) {
                Check.due("kind", x.event(back, 0), 5);
                Check.due("page", x.event(back, 1), 0);
                Check.due("home", x.event(back, 2), 1);
                Check.due("time", x.event(back, 3), time - back);
            }
            Check.due("no more", x.event(known, 3), HopHomes.NONE);
        }
        x.undo();
        Check.due("the eleventh of before is back", x.event(9, 3), 3);
        Check.due("the latest of before", x.event(0, 3), 12);
    }

    private static void ofCounts() {
        HopHomes x = Check.make(Check.at(0, 2, 1), Check.at(1, 3));
        x.set(0, 3);
        x.set(1, 6);
        x.set(2, 1);
        x.setFrames(1, 2);
        // Page 0 is copied to home 1, gives way to its own moving, and home 1 is full then.
        Check.due("copied", x.read(0, 0), 7 + 16);
        Check.due("moved", x.read(0, 0), 1 + 16);
        Check.due("denied twice", x.read(0, 1), 7);
        Check.due("copied", x.read(1, 1), 7 + 16);
        Check.type(x, "some text");
        int[] due = {4, 3, 2, 1, 70, 6, 1, 2, 1, 2, 0, 3, 6, 1, 4, 9};
        for (int what = 0; what < due.length; what++) {
            Check.due("count(" + what + ")", x.count(what), due[what]);
        }
        Check.due("count(16)", x.count(16), HopHomes.BAD_VALUE);
        for (int wrong : EXTREMES) {
            Check.due("count(" + wrong + ")", x.count(wrong), HopHomes.BAD_VALUE);
        }
        Check.due("UNKNOWN", HopHomes.UNKNOWN, -1);
        Check.due("BAD_VALUE", HopHomes.BAD_VALUE, -2);
        Check.due("FULL", HopHomes.FULL, -3);
        Check.due("NOT_POSSIBLE", HopHomes.NOT_POSSIBLE, -4);
        Check.due("NONE", HopHomes.NONE, -5);
    }
}
