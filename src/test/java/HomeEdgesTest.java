/** Edges of "homes and pages" and "threads": frames, full homes, 40 pages, 8 threads, counters. */
public final class HomeEdgesTest {
    public static void main(String[] args) {
        framesAtFirst();
        fewestFrames();
        mostFrames();
        lessThanFullFullAndMore();
        copiesTakeFrames();
        copiesDoNotGiveWayForPages();
        movingFreesAFrame();
        writingFreesAFrame();
        copiesInAllOtherHomes();
        nothingGivesWayByFewerFrames();
        fortyPages();
        fortyPagesTold();
        eightThreads();
        countersAtFirst();
        readsAtMost();
        writesAtMost();
        eachCounterAtMost();
        halvingOfTheMost();
        twiceACounterAtMost();
        Check.end();
    }

    /** Adds pages to a home until it is refused, and tells how many there was room for. */
    private static int fill(HopHomes x, int home) {
        int pages = 0;
        while (pages < 50 && x.addPage(home) >= 0) {
            pages++;
        }
        return pages;
    }

    private static void framesAtFirst() {
        HopHomes x = new HopHomes();
        for (int home = 0; home < 4; home++) {
            for (int page = 0; page < 8; page++) {
                Check.due("free frames", x.home(home, 3), 8 - page);
                Check.due("a page for a free frame", x.addPage(home), 8 * home + page);
            }
            Check.due("free frames", x.home(home, 3), 0);
            Check.due("the ninth page", x.addPage(home), HopHomes.NOT_POSSIBLE);
        }
        Check.due("pages", x.count(1), 32);
    }

    private static void fewestFrames() {
        HopHomes x = new HopHomes();
        x.setFrames(2, 1);
        Check.due("the first page", x.addPage(2), 0);
        Check.due("the second page", x.addPage(2), HopHomes.NOT_POSSIBLE);
        Check.due("another home", x.addPage(1), 1);
    }

    private static void mostFrames() {
        HopHomes x = new HopHomes();
        x.setFrames(3, 20);
        Check.due("pages in 20 frames", fill(x, 3), 20);
        Check.due("pages", x.home(3, 1), 20);
        Check.due("the 21st page", x.addPage(3), HopHomes.NOT_POSSIBLE);
        x.setFrames(3, 19);
        Check.due("one more than full", x.addPage(3), HopHomes.NOT_POSSIBLE);
        Check.due("pages stay", x.home(3, 1), 20);
    }

    /** "A home is full if all its frames are taken (or more; frames can become fewer)". */
    private static void lessThanFullFullAndMore() {
        HopHomes x = Check.make(Check.at(1, 1, 1), Check.at());
        x.setFrames(1, 4);
        Check.due("one frame is free", x.home(1, 3), 1);
        Check.due("a page for it", x.addPage(1), 3);
        Check.due("no frame is free", x.home(1, 3), 0);
        Check.due("full", x.addPage(1), HopHomes.NOT_POSSIBLE);
        x.setFrames(1, 3);
        Check.due("free frames are at least 0", x.home(1, 3), 0);
        Check.due("one more than full", x.addPage(1), HopHomes.NOT_POSSIBLE);
        x.setFrames(1, 1);
        Check.due("free frames are at least 0", x.home(1, 3), 0);
        Check.due("three more than full", x.addPage(1), HopHomes.NOT_POSSIBLE);
        x.setFrames(1, 5);
        Check.due("one frame is free again", x.home(1, 3), 1);
        Check.due("a page for it", x.addPage(1), 4);
    }

    /** A page in home 0, one in home 1, and a copy of the first in home 1, by thread 0 there. */
    private static HopHomes withCopy() {
        HopHomes x = Check.make(Check.at(0, 1), Check.at(1));
        x.set(0, 2);
        x.set(2, 1);
        Check.due("a copy is made", x.read(0, 0), 21);
        return x;
    }

    private static void copiesTakeFrames() {
        HopHomes x = withCopy();
        Check.due("8 less a page and a copy", x.home(1, 3), 6);
        Check.due("8 less a page", x.home(0, 3), 7);
        Check.due("6 more pages", fill(x, 1), 6);
        Check.due("pages", x.home(1, 1), 7);
        Check.due("copies", x.home(1, 2), 1);
    }

    private static void copiesDoNotGiveWayForPages() {
        HopHomes x = withCopy();
        x.setFrames(1, 3);
        Check.due("one less than full", x.addPage(1), 2);
        Check.due("full with a copy", x.addPage(1), HopHomes.NOT_POSSIBLE);
        Check.due("the copy stays", x.page(0, 1), 2);
        Check.due("none gave way", x.count(8), 0);
        Check.due("no denial", x.count(9), 0);
    }

    private static void movingFreesAFrame() {
        HopHomes x = Check.make(Check.at(0), Check.at(1));
        x.set(0, 1);
        x.set(2, 1);
        x.setFrames(0, 1);
        x.setFrames(1, 1);
        Check.due("full", x.addPage(0), HopHomes.NOT_POSSIBLE);
        Check.due("moved", x.read(0, 0), 21);
        Check.due("the new home is full", x.addPage(1), HopHomes.NOT_POSSIBLE);
        Check.due("the old one is not", x.addPage(0), 1);
        Check.due("pages in the old one", x.home(0, 1), 1);
        Check.due("pages in the new one", x.home(1, 1), 1);
    }

    private static void writingFreesAFrame() {
        HopHomes x = withCopy();
        x.setFrames(1, 2);
        Check.due("full", x.addPage(1), HopHomes.NOT_POSSIBLE);
        x.write(0, 0);
        Check.due("the copy is gone", x.home(1, 2), 0);
        Check.due("not full", x.addPage(1), 2);
    }

    /** A page lies in one home and has copies in the three others; more there can't be. */
    private static void copiesInAllOtherHomes() {
        for (int home = 0; home < 4; home++) {
            HopHomes x = Check.make(Check.at(home), Check.at(0, 1, 2, 3));
            x.set(0, 2);
            x.set(2, 1);
            Check.due("no copies", x.page(0, 1), 0);
            int bits = 0;
            for (int thread = 0; thread < 4; thread++) {
                x.read(thread, 0);
                bits += thread == home ? 0 : 1 << thread;
                Check.due("copies as bits", x.page(0, 1), bits);
            }
            for (int thread = 0; thread < 4; thread++) {
                Check.due("reading where it is", x.read(thread, 0), 1);
                Check.due("copies in " + thread, x.home(thread, 2), thread == home ? 0 : 1);
                Check.due("frames taken in " + thread, x.home(thread, 3), 7);
            }
            Check.due("all copies", x.count(3), 3);
            Check.due("copies made", x.count(7), 3);
        }
    }

    private static void nothingGivesWayByFewerFrames() {
        HopHomes x = withCopy();
        Check.due("fewer than are taken", x.setFrames(1, 1), 8);
        Check.due("the copy stays", x.page(0, 1), 2);
        Check.due("the page stays", x.page(1, 0), 1);
        Check.due("none gave way", x.count(8), 0);
        Check.due("the latest event is the copying", x.event(0, 0), 1);
        Check.due("the copy can be read", x.read(0, 0), 1);
    }

    private static void fortyPages() {
        HopHomes x = new HopHomes();
        x.setFrames(0, 20);
        x.setFrames(1, 20);
        Check.due("pages", fill(x, 0), 20);
        Check.due("pages", fill(x, 1), 20);
        Check.due("the 41st page", x.addPage(2), HopHomes.FULL);
        Check.due("pages", x.count(1), 40);
        x.undo();
        Check.due("one less", x.count(1), 39);
        Check.due("page 39 is not there", x.page(39, 0), HopHomes.UNKNOWN);
        Check.due("the 40th page", x.addPage(2), 39);
        Check.due("page 39 is there", x.page(39, 0), 2);
        Check.due("page 40 is not there", x.page(40, 0), HopHomes.UNKNOWN);
        for (int home = 0; home < 4; home++) {
            Check.due("the 41st page", x.addPage(home), HopHomes.FULL);
        }
        x.addThread(2);
        Check.due("page 39 is read", x.read(0, 39), 1);
        Check.due("page 40 is not", x.read(0, 40), HopHomes.UNKNOWN);
    }

    /** What is summed up over the pages takes in page 39, and there is none behind it. */
    private static void fortyPagesTold() {
        HopHomes x = States.full();
        x.set(0, 1);
        x.set(2, 1);
        Check.due("fade of zeros", x.fade(), HopHomes.NONE);
        Check.due("no frozen page", x.count(10), 0);
        Check.due("moved from home 3 to 1", x.write(2, 39), 11 + 20);
        Check.due("2 is not more than twice 1", x.write(0, 39), 6);
        Check.due("denials", x.count(9), 0);
        Check.due("fade", x.fade(), 1);
        Check.due("a full home denies", x.write(0, 39), 6);
        Check.due("denials", x.count(9), 1);
        x.go(0, 2);
        Check.due("fade", x.fade(), 1);
        Check.due("fade", x.fade(), 0);
        Check.due("moved to home 2", x.write(0, 39), 6 + 15);
        Check.due("fade", x.fade(), 0);
        Check.due("moved to home 1", x.write(2, 39), 6 + 15);
        Check.due("frozen pages", x.count(10), 1);
        Check.due("movings", x.count(6), 3);
        Check.due("pages in home 1", x.home(1, 1), 11);
        Check.due("pages in home 3", x.home(3, 1), 9);
    }

    private static void eightThreads() {
        HopHomes x = Check.make(Check.at(3), Check.at(0, 1, 2, 3, 0, 1, 2));
        Check.due("thread 7 is not there", x.thread(7, 0), HopHomes.UNKNOWN);
        Check.due("the eighth thread", x.addThread(3), 7);
        Check.due("thread 7 is there", x.thread(7, 0), 3);
        for (int home = 0; home < 4; home++) {
            Check.due("the ninth thread", x.addThread(home), HopHomes.FULL);
            Check.due("threads at " + home, x.home(home, 4), 2);
        }
        Check.due("threads", x.count(2), 8);
        Check.due("thread 7 reads", x.read(7, 0), 1);
        Check.due("thread 8 does not", x.read(8, 0), HopHomes.UNKNOWN);
        x.undo();
        x.undo();
        Check.due("one less", x.count(2), 7);
        Check.due("the eighth thread again", x.addThread(0), 7);
        for (int what = 1; what <= 4; what++) {
            Check.due("paid, hops, reads and writes at first", x.thread(7, what), 0);
        }
    }

    private static void countersAtFirst() {
        HopHomes x = Check.make(Check.at(2), Check.at(0, 3));
        for (int home = 0; home < 4; home++) {
            Check.due("the counter for " + home, x.page(0, 10 + home), 0);
        }
        x.read(0, 0);
        Check.due("by reading", x.page(0, 10), 1);
        x.write(1, 0);
        Check.due("by writing", x.page(0, 13), 2);
        Check.due("where it lies", x.page(0, 12), 0);
        Check.due("another home", x.page(0, 11), 0);
    }

    /** Writes page 0 by thread 0 until the counter is 984, by 41 calls and those of the text. */
    private static HopHomes withManyWrites(int home, int[] threads) {
        HopHomes x = Check.make(Check.at(home), threads);
        Check.type(x, "w0.0;w0.0;w0.0;w0.0;w0.0;w0.0;w0.0;w0.0;w0.0;w0.0;w0.0;w0.0");
        for (int i = 0; i < 41; i++) {
            x.perform();
        }
        Check.due("41 times 12 times 2", x.page(0, 10), 984);
        return x;
    }

    private static void readsAtMost() {
        HopHomes x = withManyWrites(0, Check.at(0));
        for (int counter = 985; counter <= 999; counter++) {
            x.read(0, 0);
            Check.due("by reading", x.page(0, 10), counter);
        }
        x.read(0, 0);
        Check.due("never more by reading", x.page(0, 10), 999);
        x.write(0, 0);
        Check.due("never more by writing", x.page(0, 10), 999);
        Check.due("the accesses are counted", x.page(0, 2), 492 + 17);
    }

    private static void writesAtMost() {
        HopHomes x = withManyWrites(0, Check.at(0));
        for (int counter = 986; counter <= 998; counter += 2) {
            x.write(0, 0);
            Check.due("by writing", x.page(0, 10), counter);
        }
        x.write(0, 0);
        Check.due("998 and 2", x.page(0, 10), 999);
        x.undo();
        x.undo();
        x.read(0, 0);
        x.write(0, 0);
        Check.due("997 and 2", x.page(0, 10), 999);
        x.write(0, 0);
        Check.due("999 and 2", x.page(0, 10), 999);
        x.read(0, 0);
        Check.due("999 and 1", x.page(0, 10), 999);
    }

    private static void eachCounterAtMost() {
        for (int home = 0; home < 4; home++) {
            HopHomes x = withManyWrites(1, Check.at(0));
            x.go(0, home);
            for (int i = 0; i < 43; i++) {
                x.perform();
            }
            Check.due("at most", x.page(0, 10 + home), 999);
            for (int other = 0; other < 4; other++) {
                int due = other == home ? 999 : other == 0 ? 984 : 0;
                Check.due("the counter for " + other, x.page(0, 10 + other), due);
            }
        }
    }

    private static void halvingOfTheMost() {
        HopHomes x = withManyWrites(0, Check.at(0));
        x.perform();
        Check.due("the most", x.page(0, 10), 999);
        int[] due = {499, 249, 124, 62, 31, 15, 7, 3, 1, 0};
        for (int sum : due) {
            Check.due("fade, rounded down", x.fade(), sum);
            Check.due("the counter", x.page(0, 10), sum);
        }
        Check.due("all are 0 already", x.fade(), HopHomes.NONE);
    }

    /** Where the page lies, its counter is 499 or 500; where it should go, it stays at 999. */
    private static void twiceACounterAtMost() {
        for (int counter = 499; counter <= 500; counter++) {
            HopHomes x = withManyWrites(2, Check.at(0, 2));
            x.perform();
            Check.due("the most", x.page(0, 10), 999);
            Check.type(x, "w1.0;w1.0;w1.0;w1.0;w1.0;w1.0;w1.0;w1.0;w1.0;w1.0;w1.0;w1.0");
            for (int i = 0; i < 20; i++) {
                x.perform();
            }
            Check.type(x, "w1.0;w1.0;w1.0;w1.0;w1.0;w1.0;w1.0;w1.0;w1.0");
            x.perform();
            Check.due("the counter", x.page(0, 12), 498);
            for (int i = 498; i < counter; i++) {
                x.read(1, 0);
            }
            x.set(0, 1);
            x.read(0, 0);
            Check.due("999 is more than 998, not than 1000", x.page(0, 0), counter == 499 ? 0 : 2);
            Check.due("halved only if moved", x.page(0, 10), counter == 499 ? 499 : 999);
        }
    }
}
