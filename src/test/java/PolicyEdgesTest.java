/** Edges of the policies: threshold, twice a counter, the latest 8 accesses, room, denials. */
public final class PolicyEdgesTest {
    public static void main(String[] args) {
        thresholdOfMoving();
        thresholdOfCopying();
        thresholdPassedByWriting();
        thresholdAtMost();
        thresholdBehindHalving();
        thresholdOfTheThreadsHome();
        twiceTheCounter();
        notMovedWhereItLies();
        latestEightAccesses();
        latestEightOfThePageOnly();
        fewerThanEight();
        hopsPaidForReading();
        policiesOfReading();
        policiesOfWriting();
        copyRuledOutThenMoved();
        roomForACopy();
        roomForAMoving();
        givingWayUntilNotFull();
        allGiveWayAndDenied();
        earliestLatestUse();
        denialsOfPolicies();
        denialWithoutMovingDue();
        denialChangesNoMore();
        ownCopyWithRoom();
        ownCopyInAFullHome();
        ownCopyAheadOfOthers();
        ownCopyAndOthers();
        ownCopyAndDenied();
        ownCopyStaysUndueMoving();
        costsOfMoving();
        costsOfCopying();
        halvingByMoving();
        Check.end();
    }

    /** Pages in some homes, threads 0 to 3 at the homes 0 to 3, a policy and a threshold. */
    private static HopHomes made(int policy, int threshold, int... pages) {
        HopHomes x = Check.make(pages, Check.at(0, 1, 2, 3));
        x.set(0, policy);
        x.set(2, threshold);
        return x;
    }

    private static void event(HopHomes x, int back, int kind, int page, int home) {
        Check.due("the kind of event " + back, x.event(back, 0), kind);
        Check.due("its page", x.event(back, 1), page);
        Check.due("its home", x.event(back, 2), home);
    }

    private static void thresholdOfMoving() {
        for (int threshold = 1; threshold <= 6; threshold++) {
            HopHomes x = made(1, threshold, 0);
            for (int counter = 1; counter < threshold; counter++) {
                Check.due("below the threshold", x.read(1, 0), 6);
            }
            Check.due("it lies where it was", x.page(0, 0), 0);
            Check.due("at the threshold", x.read(1, 0), 21);
            Check.due("it is moved", x.page(0, 0), 1);
        }
    }

    private static void thresholdOfCopying() {
        for (int policy = 2; policy <= 3; policy++) {
            for (int threshold = 1; threshold <= 6; threshold++) {
                HopHomes x = made(policy, threshold, 0);
                for (int counter = 1; counter < threshold; counter++) {
                    Check.due("below the threshold", x.read(1, 0), 6);
                }
                Check.due("no copy", x.page(0, 1), 0);
                Check.due("at the threshold", x.read(1, 0), 21);
                Check.due("a copy", x.page(0, 1), 2);
            }
        }
        HopHomes x = Check.make(Check.at(0), Check.at(1));
        x.set(0, 2);
        for (int counter = 1; counter <= 3; counter++) {
            Check.due("below the threshold at first", x.read(0, 0), 6);
        }
        Check.due("at the threshold at first", x.read(0, 0), 21);
    }

    /** A write adds 2: from one below the threshold to one above. */
    private static void thresholdPassedByWriting() {
        HopHomes x = made(1, 4, 0);
        Check.due("1", x.read(1, 0), 6);
        Check.due("3", x.write(1, 0), 6);
        Check.due("5", x.write(1, 0), 21);
        HopHomes y = made(1, 4, 0);
        Check.due("2", y.write(1, 0), 6);
        Check.due("4", y.write(1, 0), 21);
    }

    private static void thresholdAtMost() {
        for (int policy = 1; policy <= 3; policy++) {
            HopHomes x = made(policy, 99, 0);
            for (int counter = 1; counter <= 98; counter++) {
                Check.due("below the threshold", x.read(1, 0), 6);
            }
            Check.due("at the threshold", x.read(1, 0), 21);
        }
    }

    private static void thresholdBehindHalving() {
        HopHomes x = made(1, 4, 0);
        x.write(1, 0);
        Check.due("moved at 4", x.write(1, 0), 21);
        Check.due("halved", x.page(0, 11), 2);
        Check.due("1", x.read(3, 0), 11);
        Check.due("3", x.write(3, 0), 11);
        Check.due("4 is not more than twice 2", x.read(3, 0), 11);
        Check.due("6", x.write(3, 0), 11 + 20);
        Check.due("halved", x.page(0, 13), 3);
        Check.due("halved", x.page(0, 11), 1);
        Check.due("3, below the threshold though more than nothing", x.write(1, 0), 11);
    }

    /** Counters for other homes don't matter, be they at the threshold or not. */
    private static void thresholdOfTheThreadsHome() {
        HopHomes x = made(0, 3, 0);
        for (int i = 0; i < 5; i++) {
            x.read(1, 0);
        }
        x.set(0, 1);
        Check.due("the home of this thread is below", x.read(2, 0), 11);
        Check.due("and now too", x.read(2, 0), 11);
        Check.due("now it is not", x.read(2, 0), 31);
    }

    private static void twiceTheCounter() {
        for (int lying = 0; lying <= 5; lying++) {
            HopHomes x = made(1, 1, 0);
            for (int i = 0; i < lying; i++) {
                x.read(0, 0);
            }
            for (int counter = 1; counter <= 2 * lying; counter++) {
                Check.due("not more than twice", x.read(1, 0), 6);
            }
            Check.due("one more than twice", x.read(1, 0), 21);
            Check.due("counters are halved", x.page(0, 11), (2 * lying + 1) / 2);
            Check.due("counters are halved", x.page(0, 10), lying / 2);
        }
    }

    private static void notMovedWhereItLies() {
        for (int policy = 0; policy <= 3; policy++) {
            HopHomes x = made(policy, 1, 2);
            for (int i = 0; i < 5; i++) {
                Check.due("read where it lies", x.read(2, 0), 1);
                Check.due("written where it lies", x.write(2, 0), 1);
            }
            Check.due("counters are not halved", x.page(0, 12), 15);
            Check.due("no event", x.event(0, 0), HopHomes.NONE);
            Check.due("no moving", x.page(0, 4), 0);
        }
    }

    /** "Not written in the latest 8 accesses to it (this one counted)". */
    private static void latestEightAccesses() {
        for (int reads = 0; reads <= 9; reads++) {
            HopHomes x = made(0, 1, 0);
            x.read(0, 0);
            x.write(0, 0);
            for (int i = 0; i < reads; i++) {
                x.read(0, 0);
            }
            x.set(0, 2);
            boolean copies = reads >= 7;
            Check.due("written " + (reads + 1) + " accesses ago", x.read(1, 0), copies ? 21 : 6);
            Check.due("copies", x.page(0, 1), copies ? 2 : 0);
            Check.due("accesses since", x.page(0, 6), reads + 1);
        }
    }

    private static void latestEightOfThePageOnly() {
        HopHomes x = made(2, 1, 0, 0);
        x.write(0, 0);
        for (int i = 0; i < 8; i++) {
            x.read(0, 1);
        }
        Check.due("accesses to another page don't count", x.read(1, 0), 6);
        for (int i = 0; i < 6; i++) {
            x.write(0, 1);
            x.read(0, 0);
        }
        Check.due("writes of another page don't count", x.read(1, 0), 21);
    }

    /** "Fewer if there were not so many". */
    private static void fewerThanEight() {
        for (int reads = 0; reads <= 8; reads++) {
            HopHomes x = made(0, 1, 0);
            for (int i = 0; i < reads; i++) {
                x.read(0, 0);
            }
            x.set(0, 2);
            Check.due("never written in " + (reads + 1), x.read(1, 0), 21);
        }
        HopHomes x = made(2, 1, 0);
        x.write(0, 0);
        Check.due("written in the first of two", x.read(1, 0), 6);
    }

    private static void hopsPaidForReading() {
        for (int home = 0; home < 4; home++) {
            HopHomes x = made(2, 1, home);
            Check.due("no hops", x.read(home, 0), 1);
            Check.due("so no copy", x.page(0, 1), 0);
            int next = (home + 1) % 4;
            Check.due("one hop", x.read(next, 0), 21);
            Check.due("so a copy", x.page(0, 1), 1 << next);
            Check.due("no hops to the copy", x.read(next, 0), 1);
            Check.due("so no other copy", x.count(7), 1);
            x.set(1, 0);
            Check.due("hops without a toll", x.read((home + 2) % 4, 0), 11);
            Check.due("are hops too", x.count(7), 2);
        }
    }

    private static void policiesOfReading() {
        int[] paid = {11, 31, 31, 31};
        int[] homes = {0, 2, 0, 0};
        int[] copies = {0, 0, 4, 4};
        for (int policy = 0; policy <= 3; policy++) {
            HopHomes x = made(policy, 1, 0);
            Check.due("read by policy " + policy, x.read(2, 0), paid[policy]);
            Check.due("its home", x.page(0, 0), homes[policy]);
            Check.due("its copies", x.page(0, 1), copies[policy]);
        }
    }

    private static void policiesOfWriting() {
        int[] paid = {11, 31, 11, 31};
        int[] homes = {0, 2, 0, 2};
        for (int policy = 0; policy <= 3; policy++) {
            HopHomes x = made(policy, 1, 0);
            Check.due("written by policy " + policy, x.write(2, 0), paid[policy]);
            Check.due("its home", x.page(0, 0), homes[policy]);
            Check.due("no copies", x.page(0, 1), 0);
        }
    }

    /** By policy 3, what was written lately is moved if the counters say so, and stays otherwise. */
    private static void copyRuledOutThenMoved() {
        HopHomes x = made(3, 1, 0);
        x.write(0, 0);
        for (int counter = 1; counter <= 4; counter++) {
            Check.due("neither copied nor moved", x.read(1, 0), 6);
        }
        Check.due("5 is more than twice 2", x.read(1, 0), 21);
        Check.due("moved", x.page(0, 0), 1);
        Check.due("no copy", x.page(0, 1), 0);
        HopHomes y = made(3, 1, 0);
        y.write(0, 0);
        y.fade();
        y.fade();
        for (int i = 0; i < 6; i++) {
            y.read(0, 0);
        }
        Check.due("written 7 accesses ago, and 1 is not more than 12", y.read(1, 0), 6);
        Check.due("written 8 accesses ago", y.read(1, 0), 21);
        Check.due("copied", y.page(0, 1), 2);
    }

    /** A copy of page 0 is there; a copy of page 2 needs a frame. */
    private static void roomForACopy() {
        for (int frames = 1; frames <= 3; frames++) {
            HopHomes x = made(2, 1, 0, 1, 0);
            x.read(1, 0);
            x.setFrames(1, frames);
            Check.due("with " + frames + " frames", x.read(1, 2), frames == 1 ? 6 : 21);
            Check.due("the copy that was", x.page(0, 1), frames == 3 ? 2 : 0);
            Check.due("the copy that is made", x.page(2, 1), frames == 1 ? 0 : 2);
            Check.due("gave way", x.count(8), frames == 3 ? 0 : 1);
            Check.due("denials", x.count(9), frames == 1 ? 1 : 0);
            Check.due("free frames", x.home(1, 3), 0);
        }
    }

    private static void roomForAMoving() {
        for (int frames = 1; frames <= 3; frames++) {
            HopHomes x = made(2, 1, 0, 1, 0);
            x.read(1, 0);
            x.setFrames(1, frames);
            x.set(0, 1);
            Check.due("with " + frames + " frames", x.write(1, 2), frames == 1 ? 6 : 21);
            Check.due("the copy that was", x.page(0, 1), frames == 3 ? 2 : 0);
            Check.due("the page that is moved", x.page(2, 0), frames == 1 ? 0 : 1);
            Check.due("gave way", x.count(8), frames == 3 ? 0 : 1);
            Check.due("denials", x.count(9), frames == 1 ? 1 : 0);
        }
    }

    /** Five copies in home 1, and frames for fewer and fewer: no more give way than must. */
    private static void givingWayUntilNotFull() {
        for (int frames = 1; frames <= 7; frames++) {
            HopHomes x = made(2, 1, 0, 0, 0, 0, 0, 0);
            for (int page = 0; page < 5; page++) {
                x.read(1, page);
            }
            x.setFrames(1, frames);
            Check.due("a copy more", x.read(1, 5), 21);
            int gone = Math.max(0, 6 - frames);
            Check.due("gave way", x.count(8), gone);
            Check.due("copies then", x.home(1, 2), 6 - gone);
            event(x, 0, 1, 5, 1);
            for (int page = 0; page < 5; page++) {
                Check.due("those of the earliest use", x.page(page, 1), page < gone ? 0 : 2);
            }
            for (int back = 1; back <= gone; back++) {
                event(x, back, 2, gone - back, 1);
            }
        }
    }

    /** Two pages and three copies in home 1; with two frames, all copies go for nothing. */
    private static void allGiveWayAndDenied() {
        for (int frames = 1; frames <= 3; frames++) {
            HopHomes x = made(2, 1, 1, 1, 0, 0, 0, 0);
            for (int page = 2; page < 5; page++) {
                x.read(1, page);
            }
            x.setFrames(1, frames);
            boolean denied = frames < 3;
            Check.due("with " + frames + " frames", x.read(1, 5), denied ? 6 : 21);
            Check.due("gave way", x.count(8), 3);
            Check.due("denials", x.count(9), denied ? 1 : 0);
            Check.due("copies in the home", x.home(1, 2), denied ? 0 : 1);
            Check.due("copies made", x.count(7), denied ? 3 : 4);
            event(x, 0, denied ? 5 : 1, 5, 1);
            for (int back = 1; back <= 3; back++) {
                event(x, back, 2, 5 - back, 1);
            }
            Check.due("none to give way any more", x.home(1, 5), denied ? HopHomes.NONE : 5);
        }
    }

    /** Copies of the pages 2, 1, 0 are made; then each one is used, in each order. */
    private static void earliestLatestUse() {
        int[][] orders = {{0, 1, 2}, {0, 2, 1}, {1, 0, 2}, {1, 2, 0}, {2, 0, 1}, {2, 1, 0}};
        for (int[] order : orders) {
            HopHomes x = made(2, 1, 0, 0, 0, 0);
            for (int page = 2; page >= 0; page--) {
                x.read(1, page);
                Check.due("made first, used first", x.home(1, 5), 2);
            }
            for (int page : order) {
                Check.due("used", x.read(1, page), 1);
            }
            Check.due("the first to give way", x.home(1, 5), order[0]);
            x.setFrames(1, 3);
            Check.due("a copy more", x.read(1, 3), 21);
            event(x, 1, 2, order[0], 1);
            Check.due("the next one", x.home(1, 5), order[1]);
        }
    }

    /** Home 1 is full with a page of its own: what is denied by each policy. */
    private static void denialsOfPolicies() {
        int[] byReading = {0, 1, 1, 2};
        int[] byWriting = {0, 1, 0, 1};
        for (int policy = 0; policy <= 3; policy++) {
            HopHomes x = made(policy, 1, 0, 1);
            x.setFrames(1, 1);
            Check.due("read", x.read(1, 0), 6);
            Check.due("denials by reading", x.count(9), byReading[policy]);
            for (int back = 0; back < byReading[policy]; back++) {
                event(x, back, 5, 0, 1);
                Check.due("its time", x.event(back, 3), 1);
            }
            Check.due("no more events", x.event(byReading[policy], 0), HopHomes.NONE);
            Check.due("written", x.write(1, 0), 6);
            int due = byReading[policy] + byWriting[policy];
            Check.due("denials by writing", x.count(9), due);
            Check.due("no more events", x.event(due, 0), HopHomes.NONE);
        }
    }

    /** By policy 3, a copy is denied, but no moving was due. */
    private static void denialWithoutMovingDue() {
        HopHomes x = made(3, 1, 0, 1);
        x.setFrames(1, 1);
        x.read(0, 0);
        Check.due("1 and 1", x.read(1, 0), 6);
        Check.due("the copying alone", x.count(9), 1);
        Check.due("2 and 1", x.read(1, 0), 6);
        Check.due("the copying alone", x.count(9), 2);
        Check.due("3 and 1", x.read(1, 0), 6);
        Check.due("copying and moving", x.count(9), 4);
    }

    private static void denialChangesNoMore() {
        HopHomes x = made(1, 1, 0, 1);
        x.setFrames(1, 1);
        for (int counter = 1; counter <= 3; counter++) {
            Check.due("denied", x.write(1, 0), 6);
            Check.due("counters are not halved", x.page(0, 11), 2 * counter);
            Check.due("not moved", x.page(0, 0), 0);
            Check.due("no moving", x.page(0, 4), 0);
            Check.due("no moving", x.count(6), 0);
            Check.due("denials", x.count(9), counter);
        }
        Check.due("not frozen", x.page(0, 5), 0);
        x.setFrames(1, 2);
        Check.due("a frame for it", x.write(1, 0), 21);
        Check.due("not frozen by what was denied", x.page(0, 5), 0);
    }

    /** A copy of page 0 in home 1, and those of some other pages, made ahead of it. */
    private static HopHomes withOwnCopy(int others, int... pages) {
        HopHomes x = made(2, 1, pages);
        for (int page = others; page >= 0; page--) {
            Check.due("a copy", x.read(1, page), 21);
        }
        x.set(0, 1);
        return x;
    }

    private static void ownCopyWithRoom() {
        HopHomes x = withOwnCopy(0, 0, 1);
        Check.due("moved from where it lay", x.read(1, 0), 1 + 15);
        Check.due("its copy gave way", x.page(0, 1), 0);
        Check.due("gave way", x.count(8), 1);
        event(x, 1, 2, 0, 1);
        event(x, 0, 0, 0, 1);
        Check.due("one frame for it", x.home(1, 3), 6);
    }

    private static void ownCopyInAFullHome() {
        HopHomes x = withOwnCopy(0, 0, 1);
        x.setFrames(1, 2);
        Check.due("moved to the frame of its copy", x.read(1, 0), 16);
        Check.due("gave way", x.count(8), 1);
        Check.due("no denial", x.count(9), 0);
        Check.due("full", x.home(1, 3), 0);
    }

    private static void ownCopyAheadOfOthers() {
        HopHomes x = withOwnCopy(2, 0, 0, 0, 1);
        x.setFrames(1, 4);
        Check.due("the first to give way otherwise", x.home(1, 5), 2);
        Check.due("moved to the frame of its copy", x.read(1, 0), 16);
        Check.due("gave way", x.count(8), 1);
        event(x, 1, 2, 0, 1);
        Check.due("the others stay", x.page(1, 1) + x.page(2, 1), 4);
    }

    /** Two frames are missing: its own copy and two others give way, its own one first. */
    private static void ownCopyAndOthers() {
        HopHomes x = withOwnCopy(3, 0, 0, 0, 0, 1);
        x.setFrames(1, 3);
        Check.due("moved", x.read(1, 0), 16);
        Check.due("gave way", x.count(8), 3);
        event(x, 3, 2, 0, 1);
        event(x, 2, 2, 3, 1);
        event(x, 1, 2, 2, 1);
        event(x, 0, 0, 0, 1);
        Check.due("the last one stays", x.page(1, 1), 2);
    }

    /** "Also if the moving is denied then": with the other copies, which go for nothing too. */
    private static void ownCopyAndDenied() {
        HopHomes x = withOwnCopy(1, 0, 0, 1);
        x.setFrames(1, 1);
        Check.due("denied", x.read(1, 0), 1);
        Check.due("gave way", x.count(8), 2);
        event(x, 2, 2, 0, 1);
        event(x, 1, 2, 1, 1);
        event(x, 0, 5, 0, 1);
        Check.due("one denial", x.count(9), 1);
        Check.due("copies", x.count(3), 0);
        Check.due("it lies where it was", x.page(0, 0), 0);
        Check.due("counters are not halved", x.page(0, 11), 2);
    }

    /** Where no moving is due, nothing gives way. */
    private static void ownCopyStaysUndueMoving() {
        HopHomes x = withOwnCopy(0, 0, 1);
        x.read(0, 0);
        Check.due("2 is not more than twice 1", x.read(1, 0), 1);
        Check.due("its copy stays", x.page(0, 1), 2);
        Check.due("none gave way", x.count(8), 0);
        Check.due("3 is", x.read(1, 0), 16);
        Check.due("its copy gave way", x.count(8), 1);
    }

    private static void costsOfMoving() {
        int[] tolls = {0, 1, 5, 99};
        for (int toll : tolls) {
            for (int thread = 1; thread < 4; thread++) {
                HopHomes x = made(1, 1, 0);
                x.set(1, toll);
                int hops = thread == 2 ? 2 : 1;
                Check.due("written and moved", x.write(thread, 0), 11 + 2 * hops * toll);
                Check.due("the thread paid", x.thread(thread, 1), 11 + 2 * hops * toll);
                Check.due("and the hops", x.thread(thread, 2), 2 * hops);
                Check.due("for the page", x.page(0, 7), 2 * hops);
                Check.due("where it is now", x.write(thread, 0), 1);
            }
        }
        HopHomes x = withOwnCopy(0, 0);
        x.set(1, 9);
        Check.due("read from the copy, moved from where it lay", x.read(1, 0), 1 + 10 + 9);
        Check.due("hops", x.thread(1, 2), 1 + 1 + 1);
    }

    /** "Copying the same, from where the page was read": also from a copy that is nearer. */
    private static void costsOfCopying() {
        int[] tolls = {0, 1, 5, 99};
        for (int toll : tolls) {
            HopHomes x = made(2, 1, 0);
            x.set(1, toll);
            Check.due("from two hops away", x.read(2, 0), 11 + 4 * toll);
            Check.due("hops", x.thread(2, 2), 4);
            x = made(2, 1, 0);
            x.set(1, toll);
            Check.due("from one hop away", x.read(3, 0), 11 + 2 * toll);
            Check.due("from the copy, one hop away", x.read(2, 0), 11 + 2 * toll);
            Check.due("hops", x.thread(2, 2), 2);
            Check.due("hops for the page", x.page(0, 7), 4);
        }
    }

    private static void halvingByMoving() {
        HopHomes x = made(0, 1, 0);
        for (int i = 0; i < 3; i++) {
            x.read(2, 0);
        }
        x.read(3, 0);
        x.read(0, 0);
        x.set(0, 1);
        x.read(1, 0);
        x.read(1, 0);
        Check.due("not yet", x.page(0, 11), 2);
        x.read(1, 0);
        int[] due = {0, 1, 1, 0};
        for (int home = 0; home < 4; home++) {
            Check.due("halved, rounded down", x.page(0, 10 + home), due[home]);
        }
    }
}
