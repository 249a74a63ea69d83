/** Edges of "access" without policies: time, toll, the nearest one, latest uses, copies written. */
public final class AccessEdgesTest {
    public static void main(String[] args) {
        timeGrowsAheadOfAccesses();
        timeStaysOtherwise();
        tollOfNothing();
        tollAtFirst();
        tollAtMost();
        atFirstNothingIsPaid();
        hopsOfAllHomes();
        pageAndCopyAsNear();
        twoCopiesAsNear();
        copyNearerThanPage();
        pageNearerThanCopy();
        onlyTheCopyReadIsUsed();
        copiesWrittenFromThePage();
        writingWithoutCopies();
        writingWithEachCopy();
        whatAllThreadsPaid();
        wouldPayAsItIsPaid();
        accessesSinceWritten();
        bestHomeOfSeveral();
        bestHomeByOne();
        fadingToNothing();
        Check.end();
    }

    /** Pages in a home, a thread at each home, and copies made at once where a page is read. */
    private static HopHomes copying(int... pages) {
        HopHomes x = Check.make(pages, Check.at(0, 1, 2, 3));
        x.set(0, 2);
        x.set(2, 1);
        return x;
    }

    private static void timeGrowsAheadOfAccesses() {
        HopHomes x = copying(0);
        Check.due("the time at first", x.count(0), 0);
        x.read(1, 0);
        Check.due("the time of the first access", x.event(0, 3), 1);
        Check.due("the time", x.count(0), 1);
        x.write(0, 0);
        Check.due("the time of the second access", x.event(0, 3), 2);
        Check.due("the time", x.count(0), 2);
    }

    private static void timeStaysOtherwise() {
        HopHomes x = copying(0);
        x.read(1, 0);
        x.setFrames(0, 9);
        x.addPage(3);
        x.addThread(0);
        x.go(0, 2);
        x.set(1, 6);
        x.fade();
        Check.due("keep answers the time", x.keep(), 1);
        Check.due("restore answers the time", x.restore(), 1);
        Check.type(x, "g0.0;g0.1");
        x.perform();
        x.trial(0);
        Check.due("refused", x.read(0, 2), HopHomes.UNKNOWN);
        Check.due("the time", x.count(0), 1);
        Check.type(x, "g0.0;r0.0;g0.1;w0.0");
        x.perform();
        Check.due("two accesses more", x.count(0), 3);
    }

    private static void tollOfNothing() {
        HopHomes x = copying(0);
        x.set(0, 0);
        x.set(1, 0);
        for (int thread = 0; thread < 4; thread++) {
            Check.due("would be paid", x.wouldPay(thread, 0, false), 1);
            Check.due("read", x.read(thread, 0), 1);
            Check.due("written", x.write(thread, 0), 1);
        }
        Check.due("hops all the same", x.count(5), 8);
        x.set(1, 1);
        Check.due("the least toll that is one", x.read(2, 0), 3);
    }

    private static void tollAtFirst() {
        HopHomes x = Check.make(Check.at(3), Check.at(0, 1, 2, 3));
        int[] due = {6, 11, 6, 1};
        for (int thread = 0; thread < 4; thread++) {
            Check.due("read", x.read(thread, 0), due[thread]);
            Check.due("written", x.write(thread, 0), due[thread]);
        }
    }

    private static void tollAtMost() {
        HopHomes x = copying(0);
        for (int thread = 1; thread < 4; thread++) {
            x.read(thread, 0);
        }
        x.set(0, 0);
        x.set(1, 99);
        Check.due("two hops to the page, and 1 and 2 and 1 to copies", x.wouldPay(2, 0, true), 595);
        Check.due("is paid", x.write(2, 0), 595);
        Check.due("one hop", x.read(1, 0), 100);
        Check.due("two hops", x.read(2, 0), 199);
        x.set(0, 1);
        Check.due("a moving over two hops", x.write(2, 0), 199 + 208);
    }

    private static void atFirstNothingIsPaid() {
        HopHomes x = Check.make(Check.at(1), Check.at(2));
        for (int what = 1; what <= 4; what++) {
            Check.due("thread(0, " + what + ")", x.thread(0, what), 0);
        }
        Check.due("all paid", x.count(4), 0);
        Check.due("all hops", x.count(5), 0);
        Check.due("hops for the page", x.page(0, 7), 0);
    }

    private static void hopsOfAllHomes() {
        int[][] hops = {{0, 1, 2, 1}, {1, 0, 1, 2}, {2, 1, 0, 1}, {1, 2, 1, 0}};
        for (int home = 0; home < 4; home++) {
            HopHomes x = Check.make(Check.at(home), Check.at(0, 1, 2, 3));
            for (int thread = 0; thread < 4; thread++) {
                int due = hops[home][thread];
                Check.due("reading costs", x.read(thread, 0), 1 + 5 * due);
                Check.due("hops", x.thread(thread, 2), due);
                Check.due("writing costs", x.write(thread, 0), 1 + 5 * due);
                Check.due("hops", x.thread(thread, 2), 2 * due);
                Check.due("paid", x.thread(thread, 1), 2 + 10 * due);
            }
            Check.due("hops for the page", x.page(0, 7), 8);
        }
    }

    /**
     * Pages 0 and 1 lie in a home and have copies in the opposite one, that of page 0 being used
     * first; a thread between both reads page 0, and the copy is used if it is in the lower home.
     */
    private static void pageAndCopyAsNear() {
        for (int home = 0; home < 4; home++) {
            int opposite = (home + 2) % 4;
            for (int between = 1; between <= 3; between += 2) {
                HopHomes x = copying(home, home);
                x.read(opposite, 0);
                x.read(opposite, 1);
                x.set(0, 0);
                Check.due("the first to give way", x.home(opposite, 5), 0);
                Check.due("one hop", x.read((home + between) % 4, 0), 6);
                int due = opposite < home ? 1 : 0;
                Check.due("the first to give way", x.home(opposite, 5), due);
            }
        }
    }

    /** The page lies opposite to the thread, with copies in both homes between them. */
    private static void twoCopiesAsNear() {
        for (int home = 0; home < 4; home++) {
            int one = (home + 1) % 4;
            int other = (home + 3) % 4;
            HopHomes x = copying(home, home);
            for (int page = 0; page < 2; page++) {
                x.read(one, page);
                x.read(other, page);
            }
            x.set(0, 0);
            Check.due("one hop", x.read((home + 2) % 4, 0), 6);
            Check.due("the lower one was read", x.home(Math.min(one, other), 5), 1);
            Check.due("the higher one was not", x.home(Math.max(one, other), 5), 0);
        }
    }

    private static void copyNearerThanPage() {
        for (int home = 0; home < 4; home++) {
            int opposite = (home + 2) % 4;
            for (int step = 1; step <= 3; step += 2) {
                HopHomes x = copying(home);
                int between = (home + step) % 4;
                x.read(between, 0);
                x.set(0, 0);
                Check.due("one hop instead of two", x.read(opposite, 0), 6);
                Check.due("no hop instead of one", x.read(between, 0), 1);
                Check.due("writing takes all", x.wouldPay(opposite, 0, true), 1 + 2 * 5 + 5);
            }
        }
    }

    private static void pageNearerThanCopy() {
        HopHomes x = copying(3, 3);
        x.read(1, 0);
        x.read(1, 1);
        x.set(0, 0);
        Check.due("no hop", x.read(3, 0), 1);
        Check.due("the copy was not used", x.home(1, 5), 0);
    }

    private static void onlyTheCopyReadIsUsed() {
        HopHomes x = copying(0, 0);
        x.read(1, 0);
        x.read(1, 1);
        x.read(2, 0);
        x.read(2, 1);
        x.set(0, 0);
        Check.due("no hop", x.read(1, 0), 1);
        Check.due("used", x.home(1, 5), 1);
        Check.due("not used", x.home(2, 5), 0);
        Check.due("no hop", x.read(2, 0), 1);
        Check.due("used", x.home(2, 5), 1);
        Check.due("used last", x.read(1, 1), 1);
        Check.due("so the other one is first", x.home(1, 5), 0);
    }

    /** "The hops from the page to the copy", wherever the thread is. */
    private static void copiesWrittenFromThePage() {
        for (int writer = 0; writer < 4; writer++) {
            HopHomes x = copying(0);
            x.read(1, 0);
            x.read(2, 0);
            x.set(0, 0);
            int toPage = x.hops(writer, 0);
            int paid = x.thread(writer, 1);
            int hops = x.thread(writer, 2);
            Check.due("written", x.write(writer, 0), 1 + 5 * (toPage + 1 + 2));
            Check.due("the thread paid it", x.thread(writer, 1), paid + 1 + 5 * (toPage + 3));
            Check.due("and the hops", x.thread(writer, 2), hops + toPage + 3);
            Check.due("the copies are gone", x.page(0, 1), 0);
            Check.due("gone at 2", x.event(0, 2), 2);
            Check.due("ahead of it at 1", x.event(1, 2), 1);
            Check.due("all the copies that were", x.event(2, 0), 1);
        }
    }

    private static void writingWithoutCopies() {
        HopHomes x = copying(0);
        Check.due("written", x.write(2, 0), 11);
        Check.due("no event", x.event(0, 0), HopHomes.NONE);
    }

    /** One copy, in each home in which it can be. */
    private static void writingWithEachCopy() {
        for (int home = 0; home < 4; home++) {
            for (int step = 1; step < 4; step++) {
                int place = (home + step) % 4;
                HopHomes x = copying(home);
                x.read(place, 0);
                Check.due("written", x.write(home, 0), step == 2 ? 11 : 6);
                int[] event = {3, 0, place, 2};
                for (int what = 0; what < 4; what++) {
                    Check.due("event(0, " + what + ")", x.event(0, what), event[what]);
                }
                Check.due("copies", x.page(0, 1), 0);
                Check.due("all copies", x.count(3), 0);
                Check.due("free frames", x.home(place, 3), 8);
            }
        }
    }

    /** All that was paid is what the threads paid, the first and the last of eight too. */
    private static void whatAllThreadsPaid() {
        HopHomes x = Check.make(Check.at(0), Check.at(1, 0, 0, 0, 0, 0, 0, 2));
        int[] reads = {2, 0, 0, 1, 0, 0, 0, 1};
        int[] writes = {1, 0, 0, 0, 2, 0, 0, 3};
        int paid = 0;
        int hops = 0;
        for (int thread = 0; thread < 8; thread++) {
            for (int i = 0; i < reads[thread]; i++) {
                paid += x.read(thread, 0);
            }
            for (int i = 0; i < writes[thread]; i++) {
                paid += x.write(thread, 0);
            }
            Check.due("reads", x.thread(thread, 3), reads[thread]);
            Check.due("writes", x.thread(thread, 4), writes[thread]);
            hops += x.thread(thread, 2);
            Check.due("all that was paid", x.count(4), paid);
            Check.due("all hops", x.count(5), hops);
        }
        Check.due("3 accesses of one hop, 4 of two", hops, 11);
        Check.due("10 accesses and 11 hops", paid, 10 + 55);
    }

    private static void wouldPayAsItIsPaid() {
        for (int thread = 0; thread < 4; thread++) {
            HopHomes x = copying(0, 1);
            x.read(2, 0);
            x.set(0, 0);
            int reads = x.wouldPay(thread, 0, false);
            int writes = x.wouldPay(thread, 0, true);
            Check.due("as read", x.read(thread, 0), reads);
            Check.due("as written", x.write(thread, 0), writes);
            Check.due("one copy less", x.wouldPay(thread, 0, true), writes - 10);
        }
    }

    private static void accessesSinceWritten() {
        HopHomes x = Check.make(Check.at(0, 0), Check.at(0));
        x.read(0, 0);
        Check.due("never", x.page(0, 6), HopHomes.NONE);
        for (int since = 0; since < 3; since++) {
            Check.due("in the latest one", since == 0 ? x.write(0, 0) : x.read(0, 0), 1);
            Check.due("since", x.page(0, 6), since);
        }
        x.write(0, 1);
        Check.due("another page", x.page(0, 6), 2);
        x.write(0, 0);
        Check.due("again in the latest one", x.page(0, 6), 0);
        x.fade();
        Check.due("fading is no access", x.page(0, 6), 0);
        x.undo();
        x.undo();
        Check.due("as before", x.page(0, 6), 2);
    }

    /** With the counters 1, 1, 1, 1 or 0 all homes are as good, so that it stays. */
    private static void bestHomeOfSeveral() {
        for (int home = 0; home < 4; home++) {
            HopHomes x = Check.make(Check.at(home), Check.at(0, 1, 2, 3));
            Check.due("without counters", x.bestHome(0), home);
            for (int thread = 0; thread < 4; thread++) {
                x.read(thread, 0);
            }
            Check.due("all are as good", x.bestHome(0), home);
            x.read((home + 1) % 4, 0);
            Check.due("one is better", x.bestHome(0), (home + 1) % 4);
        }
        for (int home = 0; home < 4; home++) {
            HopHomes x = Check.make(Check.at(home), Check.at(1, 2));
            x.read(0, 0);
            x.read(1, 0);
            Check.due("1 and 2 are as good", x.bestHome(0), home == 2 ? 2 : 1);
        }
        for (int home = 0; home < 4; home++) {
            HopHomes x = Check.make(Check.at(home), Check.at(3, 0));
            x.read(0, 0);
            x.read(1, 0);
            Check.due("0 and 3 are as good", x.bestHome(0), home == 3 ? 3 : 0);
        }
    }

    /** One more or less at a counter decides. */
    private static void bestHomeByOne() {
        HopHomes x = Check.make(Check.at(3), Check.at(1, 3));
        x.write(0, 0);
        x.write(1, 0);
        Check.due("2 and 2: where it lies", x.bestHome(0), 3);
        x.read(0, 0);
        Check.due("3 and 2", x.bestHome(0), 1);
        x.read(1, 0);
        Check.due("3 and 3", x.bestHome(0), 3);
    }

    private static void fadingToNothing() {
        HopHomes x = Check.make(Check.at(0, 1), Check.at(0, 3));
        x.read(0, 0);
        x.read(1, 1);
        Check.due("1 and 1 halved", x.fade(), 0);
        Check.due("all are 0 already", x.fade(), HopHomes.NONE);
        x.write(1, 1);
        Check.due("a single 2 halved", x.fade(), 1);
        Check.due("where it was", x.page(1, 13), 1);
        Check.due("a single 1 halved", x.fade(), 0);
        Check.due("all are 0 already", x.fade(), HopHomes.NONE);
    }
}
