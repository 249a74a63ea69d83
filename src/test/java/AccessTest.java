/** Promises 7 to 9: read, write, fade, without moving and copying but for what they need. */
public final class AccessTest {
    public static void main(String[] args) {
        reading();
        nearestIsRead();
        lowestOfNearestIsRead();
        latestUse();
        writing();
        writingOverCopies();
        counterAtMost();
        fading();
        wrongArguments();
        Check.end();
    }

    private static void reading() {
        HopHomes x = Check.make(Check.at(0), Check.at(0, 1, 2, 3));
        Check.due("reading where it lies", x.read(0, 0), 1);
        Check.due("reading one hop away", x.read(1, 0), 6);
        Check.due("reading two hops away", x.read(2, 0), 11);
        Check.due("reading over the ring's end", x.read(3, 0), 6);
        Check.due("the time", x.count(0), 4);
        for (int home = 0; home < 4; home++) {
            Check.due("the counter for home " + home, x.page(0, 10 + home), 1);
            Check.due("reads", x.thread(home, 3), 1);
            Check.due("writes", x.thread(home, 4), 0);
        }
        Check.due("paid", x.thread(2, 1), 11);
        Check.due("hops paid", x.thread(2, 2), 2);
        Check.due("hops paid for the page", x.page(0, 7), 4);
        x.set(1, 0);
        Check.due("reading without a toll", x.read(2, 0), 1);
        Check.due("hops are paid all the same", x.thread(2, 2), 4);
        x.set(1, 99);
        Check.due("reading with the highest toll", x.read(2, 0), 199);
        Check.due("all that was paid", x.count(4), 1 + 6 + 11 + 6 + 1 + 199);
        Check.due("all hops", x.count(5), 8);
    }

    /** A page in home 0 and a copy of it in home 2, made there by thread 0. */
    private static HopHomes withCopyInTwo() {
        HopHomes x = Check.make(Check.at(0), Check.at(2));
        x.set(0, 2);
        x.set(2, 1);
        Check.due("a copy is made", x.read(0, 0), 11 + 20);
        x.set(0, 0);
        return x;
    }

    private static void nearestIsRead() {
        HopHomes x = withCopyInTwo();
        Check.due("reading the copy where it is", x.read(0, 0), 1);
        x.go(0, 3);
        Check.due("reading from the page or the copy", x.read(0, 0), 6);
        x.go(0, 0);
        Check.due("reading the page", x.read(0, 0), 1);
    }

    private static void lowestOfNearestIsRead() {
        // Pages 0 and 1 in home 3 with copies in home 1: both are one hop from homes 0 and 2.
        HopHomes x = Check.make(Check.at(3, 3), Check.at(1, 2));
        x.set(0, 2);
        x.set(2, 1);
        x.read(0, 0);
        x.read(0, 1);
        Check.due("the earlier copy gives way first", x.home(1, 5), 0);
        x.set(0, 0);
        Check.due("reading one hop away", x.read(1, 0), 6);
        Check.due("the copy in the lower home was used", x.home(1, 5), 1);

        // Page in home 0, copies in home 2: the page is in the lower home and is read.
        x = Check.make(Check.at(0, 0), Check.at(2, 1));
        x.set(0, 2);
        x.set(2, 1);
        x.read(0, 0);
        x.read(0, 1);
        x.set(0, 0);
        Check.due("reading one hop away", x.read(1, 0), 6);
        Check.due("the copy was not used", x.home(2, 5), 0);
    }

    private static void latestUse() {
        HopHomes x = Check.make(Check.at(0, 0), Check.at(1));
        x.set(0, 2);
        x.set(2, 1);
        x.read(0, 0);
        x.read(0, 1);
        Check.due("used at its making", x.home(1, 5), 0);
        Check.due("the copy is read", x.read(0, 0), 1);
        Check.due("used by reading", x.home(1, 5), 1);
        x.write(0, 1);
        Check.due("gone by writing", x.home(1, 5), 0);
    }

    private static void writing() {
        HopHomes x = Check.make(Check.at(3), Check.at(3, 0, 1, 2));
        Check.due("writing where it lies", x.write(0, 0), 1);
        Check.due("writing over the ring's end", x.write(1, 0), 6);
        Check.due("writing two hops away", x.write(2, 0), 11);
        Check.due("writing one hop away", x.write(3, 0), 6);
        Check.due("the counter grows by 2", x.page(0, 12), 2);
        Check.due("accesses", x.page(0, 2), 4);
        Check.due("writes of the page", x.page(0, 3), 4);
        Check.due("writes of the thread", x.thread(2, 4), 1);
        Check.due("reads of the thread", x.thread(2, 3), 0);
        Check.due("paid", x.thread(2, 1), 11);
        Check.due("hops", x.thread(2, 2), 2);
    }

    private static void writingOverCopies() {
        HopHomes x = Check.make(Check.at(0), Check.at(3, 2, 1));
        x.set(0, 2);
        x.set(2, 1);
        Check.due("a copy in home 3", x.read(0, 0), 21);
        Check.due("a copy in home 2, from home 3", x.read(1, 0), 21);
        Check.due("a copy in home 1", x.read(2, 0), 21);
        Check.due("copies", x.page(0, 1), 14);
        x.set(0, 0);
        int before = x.page(0, 7);
        // One hop to the page, then 1 + 2 + 1 from the page to the copies.
        Check.due("writing is told", x.wouldPay(2, 0, true), 26);
        Check.due("writing", x.write(2, 0), 26);
        Check.due("hops for the page", x.page(0, 7), before + 5);
        Check.due("hops of the thread", x.thread(2, 2), 2 + 5);
        Check.due("no copies", x.page(0, 1), 0);
        for (int back = 0; back < 3; back++) {
            Check.due("kind", x.event(back, 0), 3);
            Check.due("page", x.event(back, 1), 0);
            Check.due("home", x.event(back, 2), 3 - back);
            Check.due("time", x.event(back, 3), 4);
        }
        Check.due("copies that are gone by writing did not give way", x.count(8), 0);
        Check.due("copies made stay counted", x.count(7), 3);
    }

    private static void counterAtMost() {
        HopHomes x = Check.make(Check.at(0), Check.at(0));
        Check.type(x, "w0.0;w0.0;w0.0;w0.0;w0.0;w0.0;w0.0;w0.0;w0.0;w0.0;w0.0;w0.0");
        for (int i = 0; i < 41; i++) {
            Check.due("12 writes", x.perform(), 12);
        }
        Check.due("41 times 24", x.page(0, 10), 984);
        for (int i = 0; i < 7; i++) {
            x.write(0, 0);
        }
        Check.due("near the limit", x.page(0, 10), 998);
        x.write(0, 0);
        Check.due("a write at 998", x.page(0, 10), 999);
        x.write(0, 0);
        Check.due("a write at 999", x.page(0, 10), 999);
        x.read(0, 0);
        Check.due("a read at 999", x.page(0, 10), 999);
        Check.due("halved", x.fade(), 499);
    }

    private static void fading() {
        HopHomes x = Check.make(Check.at(0, 2), Check.at(0, 1));
        Check.due("fade of zeros", x.fade(), HopHomes.NONE);
        int states = x.count(14);
        x.read(0, 0);
        x.read(0, 0);
        x.read(0, 0);
        x.read(1, 0);
        x.write(1, 1);
        Check.due("fade of 3, 1 and 2", x.fade(), 2);
        Check.due("3 halved", x.page(0, 10), 1);
        Check.due("1 halved", x.page(0, 11), 0);
        Check.due("2 halved", x.page(1, 11), 1);
        Check.due("fade of 1 and 1 is an act", x.fade(), 0);
        Check.due("states", x.count(14), 4);
        Check.due("fade of zeros again", x.fade(), HopHomes.NONE);
        Check.due("states stay", x.count(14), 4);
        Check.due("the time stays", x.count(0), 5);
        Check.due("undo of fade", x.undo(), 3);
        Check.due("counters are back", x.page(0, 10), 1);
        Check.due("states of before", states, 4);
    }

    private static void wrongArguments() {
        HopHomes x = Check.make(Check.at(0), Check.at(0));
        int[] wrong = {-1, 1, 8, 40, Integer.MIN_VALUE, Integer.MAX_VALUE};
        for (int number : wrong) {
            Check.due("read by " + number, x.read(number, 0), HopHomes.UNKNOWN);
            Check.due("read of " + number, x.read(0, number), HopHomes.UNKNOWN);
            Check.due("write by " + number, x.write(number, 0), HopHomes.UNKNOWN);
            Check.due("write of " + number, x.write(0, number), HopHomes.UNKNOWN);
        }
        Check.due("the time stays", x.count(0), 0);
        Check.due("no states", x.count(14), 2);
    }
}
