/**
 * The ranges of all arguments, the last value that is allowed and the first that is not, on both
 * ends; and the order of the checks where several errors apply.
 */
public final class RangeEdgesTest {
    public static void main(String[] args) {
        homesOfActs();
        frames();
        settings();
        pagesAndThreadsOfActs();
        noPagesAndThreads();
        homesTold();
        pagesTold();
        threadsTold();
        hopsTold();
        wouldPay();
        trial();
        bestHome();
        events();
        counts();
        orderOfSettingUp();
        orderOfTexts();
        orderOfTelling();
        Check.end();
    }

    private static void homesOfActs() {
        for (int home = 0; home <= 3; home++) {
            HopHomes x = new HopHomes();
            Check.due("setFrames(" + home + ", 9)", x.setFrames(home, 9), 8);
            Check.due("addPage(" + home + ")", x.addPage(home), 0);
            Check.due("addThread(" + home + ")", x.addThread(home), 0);
            Check.due("go(0, " + (3 - home) + ")", x.go(0, 3 - home), home);
        }
        HopHomes x = Check.make(Check.at(0), Check.at(0));
        for (int home : Check.outside(0, 3)) {
            Check.due("setFrames(" + home + ", 9)", x.setFrames(home, 9), HopHomes.UNKNOWN);
            Check.due("addPage(" + home + ")", x.addPage(home), HopHomes.UNKNOWN);
            Check.due("addThread(" + home + ")", x.addThread(home), HopHomes.UNKNOWN);
            Check.due("go(0, " + home + ")", x.go(0, home), HopHomes.UNKNOWN);
        }
    }

    private static void frames() {
        for (int home = 0; home <= 3; home++) {
            HopHomes x = new HopHomes();
            Check.due("the fewest frames", x.setFrames(home, 1), 8);
            Check.due("frames", x.home(home, 0), 1);
            Check.due("the most frames", x.setFrames(home, 20), 1);
            Check.due("frames", x.home(home, 0), 20);
            Check.due("one less", x.setFrames(home, 19), 20);
            Check.due("one more than the fewest", x.setFrames(home, 2), 19);
            for (int frames : Check.outside(1, 20)) {
                Check.due("setFrames(" + frames + ")", x.setFrames(home, frames), HopHomes.BAD_VALUE);
            }
            Check.due("frames", x.home(home, 0), 2);
        }
    }

    private static void settings() {
        int[] least = {0, 0, 1};
        int[] most = {3, 99, 99};
        int[] first = {0, 5, 4};
        for (int what = 0; what < 3; what++) {
            HopHomes x = new HopHomes();
            int between = 2;
            Check.due("set " + what + " to 2", x.set(what, between), first[what]);
            Check.due("to the most", x.set(what, most[what]), between);
            Check.due("told", x.count(11 + what), most[what]);
            Check.due("to the least", x.set(what, least[what]), most[what]);
            Check.due("told", x.count(11 + what), least[what]);
            for (int value : Check.outside(least[what], most[what])) {
                Check.due("set(" + what + ", " + value + ")", x.set(what, value), HopHomes.BAD_VALUE);
            }
            Check.due("told", x.count(11 + what), least[what]);
        }
        HopHomes x = new HopHomes();
        for (int what : Check.outside(0, 2)) {
            for (int value = 0; value < 5; value++) {
                Check.due("set(" + what + ", " + value + ")", x.set(what, value), HopHomes.BAD_VALUE);
            }
        }
    }

    private static void pagesAndThreadsOfActs() {
        HopHomes x = Check.make(Check.at(0, 0), Check.at(0, 0, 0));
        Check.due("the last thread", x.read(2, 0), 1);
        Check.due("the last page", x.read(0, 1), 1);
        Check.due("the last of both", x.write(2, 1), 1);
        Check.due("the first of both", x.write(0, 0), 1);
        Check.due("the last thread goes", x.go(2, 1), 0);
        for (int thread : Check.outside(0, 2)) {
            Check.due("read(" + thread + ", 0)", x.read(thread, 0), HopHomes.UNKNOWN);
            Check.due("write(" + thread + ", 0)", x.write(thread, 0), HopHomes.UNKNOWN);
            Check.due("go(" + thread + ", 1)", x.go(thread, 1), HopHomes.UNKNOWN);
        }
        for (int page : Check.outside(0, 1)) {
            Check.due("read(0, " + page + ")", x.read(0, page), HopHomes.UNKNOWN);
            Check.due("write(0, " + page + ")", x.write(0, page), HopHomes.UNKNOWN);
            Check.due("both unknown", x.write(page, page), x.read(3, page));
        }
        Check.due("a page more", x.addPage(0), 2);
        Check.due("is known then", x.read(0, 2), 1);
        Check.due("a thread more", x.addThread(0), 3);
        Check.due("is known then", x.write(3, 2), 1);
        x.undo();
        x.undo();
        Check.due("a thread less", x.write(3, 2), HopHomes.UNKNOWN);
        x.undo();
        x.undo();
        Check.due("a page less", x.read(0, 2), HopHomes.UNKNOWN);
    }

    private static void noPagesAndThreads() {
        HopHomes x = Check.make(Check.at(), Check.at(1));
        Check.due("read without pages", x.read(0, 0), HopHomes.UNKNOWN);
        Check.due("write without pages", x.write(0, 0), HopHomes.UNKNOWN);
        Check.due("wouldPay without pages", x.wouldPay(0, 0, true), HopHomes.UNKNOWN);
        Check.due("page without pages", x.page(0, 0), HopHomes.UNKNOWN);
        Check.due("bestHome without pages", x.bestHome(0), HopHomes.UNKNOWN);
        x = Check.make(Check.at(1), Check.at());
        Check.due("read without threads", x.read(0, 0), HopHomes.UNKNOWN);
        Check.due("write without threads", x.write(0, 0), HopHomes.UNKNOWN);
        Check.due("wouldPay without threads", x.wouldPay(0, 0, false), HopHomes.UNKNOWN);
        Check.due("thread without threads", x.thread(0, 0), HopHomes.UNKNOWN);
        Check.due("go without threads", x.go(0, 0), HopHomes.UNKNOWN);
    }

    private static void homesTold() {
        HopHomes x = new HopHomes();
        int[] due = {8, 0, 0, 8, 0, HopHomes.NONE};
        for (int home = 0; home <= 3; home++) {
            for (int what = 0; what <= 5; what++) {
                Check.due("home(" + home + ", " + what + ")", x.home(home, what), due[what]);
            }
            for (int what : Check.outside(0, 5)) {
                Check.due("home(" + home + ", " + what + ")", x.home(home, what), HopHomes.BAD_VALUE);
            }
        }
        for (int home : Check.outside(0, 3)) {
            Check.due("home(" + home + ", 0)", x.home(home, 0), HopHomes.UNKNOWN);
            Check.due("home(" + home + ", 5)", x.home(home, 5), HopHomes.UNKNOWN);
        }
    }

    private static void pagesTold() {
        HopHomes x = Check.make(Check.at(3, 1), Check.at(0));
        int[] due = {1, 0, 0, 0, 0, 0, HopHomes.NONE, 0};
        for (int what = 0; what <= 7; what++) {
            Check.due("page(1, " + what + ")", x.page(1, what), due[what]);
        }
        x.read(0, 1);
        int[] counters = {1, 0, 0, 0};
        for (int what = 10; what <= 13; what++) {
            Check.due("page(1, " + what + ")", x.page(1, what), counters[what - 10]);
        }
        for (int what : new int[] {-1, 8, 9, 14, Integer.MIN_VALUE, Integer.MAX_VALUE}) {
            Check.due("page(1, " + what + ")", x.page(1, what), HopHomes.BAD_VALUE);
        }
        Check.due("the first page", x.page(0, 0), 3);
        for (int page : Check.outside(0, 1)) {
            Check.due("page(" + page + ", 0)", x.page(page, 0), HopHomes.UNKNOWN);
            Check.due("page(" + page + ", 13)", x.page(page, 13), HopHomes.UNKNOWN);
        }
    }

    private static void threadsTold() {
        HopHomes x = Check.make(Check.at(0), Check.at(3, 1));
        int[] due = {1, 0, 0, 0, 0};
        for (int what = 0; what <= 4; what++) {
            Check.due("thread(1, " + what + ")", x.thread(1, what), due[what]);
        }
        for (int what : Check.outside(0, 4)) {
            Check.due("thread(1, " + what + ")", x.thread(1, what), HopHomes.BAD_VALUE);
        }
        Check.due("the first thread", x.thread(0, 0), 3);
        for (int thread : Check.outside(0, 1)) {
            Check.due("thread(" + thread + ", 0)", x.thread(thread, 0), HopHomes.UNKNOWN);
            Check.due("thread(" + thread + ", 4)", x.thread(thread, 4), HopHomes.UNKNOWN);
        }
    }

    /** "The difference of their numbers, or 4 less it if it is 3". */
    private static void hopsTold() {
        HopHomes x = new HopHomes();
        int[] byDifference = {0, 1, 2, 1};
        for (int one = 0; one <= 3; one++) {
            for (int other = 0; other <= 3; other++) {
                int due = byDifference[Math.abs(one - other)];
                Check.due("hops(" + one + ", " + other + ")", x.hops(one, other), due);
            }
            for (int home : Check.outside(0, 3)) {
                Check.due("hops(" + one + ", " + home + ")", x.hops(one, home), HopHomes.UNKNOWN);
                Check.due("hops(" + home + ", " + one + ")", x.hops(home, one), HopHomes.UNKNOWN);
                Check.due("hops of the same", x.hops(home, home), HopHomes.UNKNOWN);
            }
        }
    }

    private static void wouldPay() {
        HopHomes x = Check.make(Check.at(0, 1), Check.at(2, 3));
        for (boolean writes : new boolean[] {false, true}) {
            Check.due("the first of both", x.wouldPay(0, 0, writes), 11);
            Check.due("the last of both", x.wouldPay(1, 1, writes), 11);
            Check.due("the last page", x.wouldPay(0, 1, writes), 6);
            for (int number : Check.outside(0, 1)) {
                Check.due("thread " + number, x.wouldPay(number, 0, writes), HopHomes.UNKNOWN);
                Check.due("page " + number, x.wouldPay(0, number, writes), HopHomes.UNKNOWN);
            }
        }
    }

    private static void trial() {
        HopHomes x = Check.make(Check.at(0), Check.at(2));
        x.set(2, 1);
        Check.type(x, "r0.0;r0.0");
        int[] due = {22, 32, 32, 11 + 20 + 1 + 20};
        for (int policy = 0; policy <= 3; policy++) {
            Check.due("trial(" + policy + ")", x.trial(policy), due[policy]);
        }
        for (int policy : Check.outside(0, 3)) {
            Check.due("trial(" + policy + ")", x.trial(policy), HopHomes.BAD_VALUE);
        }
    }

    private static void bestHome() {
        HopHomes x = Check.make(Check.at(3, 1), Check.at());
        Check.due("the first page", x.bestHome(0), 3);
        Check.due("the last page", x.bestHome(1), 1);
        for (int page : Check.outside(0, 1)) {
            Check.due("bestHome(" + page + ")", x.bestHome(page), HopHomes.UNKNOWN);
        }
    }

    private static void events() {
        HopHomes x = Check.make(Check.at(0), Check.at(3));
        x.set(0, 2);
        x.set(2, 1);
        x.read(0, 0);
        int[] due = {1, 0, 3, 1};
        for (int what = 0; what <= 3; what++) {
            Check.due("event(0, " + what + ")", x.event(0, what), due[what]);
            Check.due("event(1, " + what + ")", x.event(1, what), HopHomes.NONE);
            Check.due("event(MAX, " + what + ")", x.event(Integer.MAX_VALUE, what), HopHomes.NONE);
            Check.due("event(-1, " + what + ")", x.event(-1, what), HopHomes.BAD_VALUE);
            Check.due("event(MIN, " + what + ")", x.event(Integer.MIN_VALUE, what), HopHomes.BAD_VALUE);
        }
        for (int what : Check.outside(0, 3)) {
            Check.due("event(0, " + what + ")", x.event(0, what), HopHomes.BAD_VALUE);
        }
    }

    private static void counts() {
        HopHomes x = Check.make(Check.at(0, 0), Check.at(0));
        Check.type(x, "abc");
        int[] due = {0, 2, 1, 0, 0, 0, 0, 0, 0, 0, 0, 0, 5, 4, 3, 3};
        for (int what = 0; what <= 15; what++) {
            Check.due("count(" + what + ")", x.count(what), due[what]);
        }
        for (int what : Check.outside(0, 15)) {
            Check.due("count(" + what + ")", x.count(what), HopHomes.BAD_VALUE);
        }
    }

    private static void orderOfSettingUp() {
        HopHomes x = States.full();
        for (int home : Check.outside(0, 3)) {
            Check.due("no home ahead of no frames", x.setFrames(home, 0), HopHomes.UNKNOWN);
            Check.due("no home ahead of many frames", x.setFrames(home, 21), HopHomes.UNKNOWN);
            Check.due("no home ahead of 40 pages", x.addPage(home), HopHomes.UNKNOWN);
            Check.due("no home ahead of 8 threads", x.addThread(home), HopHomes.UNKNOWN);
        }
        Check.due("home 0 is full", x.home(0, 3), 0);
        Check.due("40 pages ahead of a full home", x.addPage(0), HopHomes.FULL);
        Check.due("home 1 is not full", x.home(1, 3), 1);
        Check.due("40 pages in another home", x.addPage(1), HopHomes.FULL);
    }

    private static void orderOfTexts() {
        HopHomes x = Check.make(Check.at(0), Check.at(0));
        Check.type(x, "r9.9;x");
        Check.due("the fault ahead of the unknown", x.perform(), -105);
        Check.due("the fault ahead of the unknown", x.trial(0), -105);
        Check.due("the fault ahead of the unknown", x.bestPolicy(), -105);
        for (int policy : Check.outside(0, 3)) {
            Check.due("the policy ahead of the fault", x.trial(policy), HopHomes.BAD_VALUE);
        }
        Check.type(x, "r9.9");
        Check.due("unknown", x.perform(), HopHomes.UNKNOWN);
        Check.due("unknown", x.trial(0), HopHomes.UNKNOWN);
        Check.due("unknown", x.bestPolicy(), HopHomes.UNKNOWN);
        for (int policy : Check.outside(0, 3)) {
            Check.due("the policy ahead of the unknown", x.trial(policy), HopHomes.BAD_VALUE);
        }
    }

    private static void orderOfTelling() {
        HopHomes x = Check.make(Check.at(0), Check.at(0));
        Check.due("no home ahead of no number", x.home(4, 6), HopHomes.UNKNOWN);
        Check.due("no home ahead of no number", x.home(-1, -1), HopHomes.UNKNOWN);
        Check.due("no page ahead of no number", x.page(1, 8), HopHomes.UNKNOWN);
        Check.due("no page ahead of no number", x.page(-1, 14), HopHomes.UNKNOWN);
        Check.due("no thread ahead of no number", x.thread(1, 5), HopHomes.UNKNOWN);
        Check.due("no thread ahead of no number", x.thread(-1, -1), HopHomes.UNKNOWN);
        Check.due("no such part ahead of no event", x.event(0, 4), HopHomes.BAD_VALUE);
        Check.due("no such part ahead of no event", x.event(10, -1), HopHomes.BAD_VALUE);
        Check.due("no event", x.event(0, 3), HopHomes.NONE);
    }
}
