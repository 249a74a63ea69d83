/** Promises 7 and 8, as far as the policies go: moving, copying, giving way, freezing. */
public final class PolicyTest {
    public static void main(String[] args) {
        nothingByPolicyZero();
        movingAtThreshold();
        movingNeedsMoreThanTwice();
        movingByWriting();
        copyingAtThreshold();
        copyingNotBehindWrites();
        copyingOfWhatWasNeverWritten();
        copyingOnlyForPaidHops();
        copyingWithoutToll();
        copyingFromNearest();
        writingNeverCopies();
        copyElseMove();
        copyIsNotMoved();
        earliestUseGivesWay();
        severalGiveWay();
        givenWayAlthoughDenied();
        ownCopyGivesWay();
        ownCopyGivesWayAlthoughDenied();
        bothDenied();
        freezingWithinTwenty();
        frozenForThirty();
        Check.end();
    }

    private static void nothingByPolicyZero() {
        HopHomes x = Check.make(Check.at(0), Check.at(1));
        x.set(2, 1);
        for (int i = 0; i < 10; i++) {
            Check.due("read", x.read(0, 0), 6);
            Check.due("write", x.write(0, 0), 6);
        }
        Check.due("the page stays", x.page(0, 0), 0);
        Check.due("no event", x.event(0, 0), HopHomes.NONE);
    }

    private static void movingAtThreshold() {
        HopHomes x = Check.make(Check.at(0), Check.at(2));
        x.set(0, 1);
        for (int i = 0; i < 3; i++) {
            Check.due("read below the threshold", x.read(0, 0), 11);
        }
        Check.due("read at the threshold", x.read(0, 0), 11 + 20);
        Check.due("the new home", x.page(0, 0), 2);
        Check.due("the counter is halved", x.page(0, 12), 2);
        Check.due("movings of the page", x.page(0, 4), 1);
        Check.due("movings", x.count(6), 1);
        Check.due("hops of the thread", x.thread(0, 2), 10);
        Check.due("hops of the page", x.page(0, 7), 10);
        Check.due("paid", x.thread(0, 1), 64);
        Check.due("pages in the old home", x.home(0, 1), 0);
        Check.due("pages in the new home", x.home(2, 1), 1);
        int[] event = {0, 0, 2, 4};
        for (int what = 0; what < 4; what++) {
            Check.due("event(0, " + what + ")", x.event(0, what), event[what]);
        }
        Check.due("one event", x.event(1, 0), HopHomes.NONE);
    }

    private static void movingNeedsMoreThanTwice() {
        HopHomes x = Check.make(Check.at(0), Check.at(0, 1));
        x.set(0, 1);
        x.set(2, 1);
        x.read(0, 0);
        x.write(0, 0);
        for (int i = 0; i < 6; i++) {
            Check.due("not more than twice 3", x.read(1, 0), 6);
        }
        Check.due("7 is more than twice 3", x.read(1, 0), 21);
        Check.due("7 halved", x.page(0, 11), 3);
        Check.due("3 halved", x.page(0, 10), 1);
    }

    private static void movingByWriting() {
        HopHomes x = Check.make(Check.at(0), Check.at(3));
        x.set(0, 1);
        Check.due("write below the threshold", x.write(0, 0), 6);
        Check.due("write at the threshold", x.write(0, 0), 21);
        Check.due("the new home", x.page(0, 0), 3);
    }

    private static void copyingAtThreshold() {
        HopHomes x = Check.make(Check.at(0), Check.at(2));
        x.set(0, 2);
        x.set(2, 3);
        Check.due("read", x.read(0, 0), 11);
        Check.due("read", x.read(0, 0), 11);
        Check.due("read at the threshold", x.read(0, 0), 31);
        Check.due("copies", x.page(0, 1), 4);
        Check.due("copies in the home", x.home(2, 2), 1);
        Check.due("free frames", x.home(2, 3), 7);
        Check.due("all copies", x.count(3), 1);
        Check.due("copies made", x.count(7), 1);
        Check.due("the page stays", x.page(0, 0), 0);
        Check.due("counters are not halved", x.page(0, 12), 3);
        int[] event = {1, 0, 2, 3};
        for (int what = 0; what < 4; what++) {
            Check.due("event(0, " + what + ")", x.event(0, what), event[what]);
        }
    }

    private static void copyingNotBehindWrites() {
        HopHomes x = Check.make(Check.at(0), Check.at(0, 1));
        x.set(0, 2);
        x.set(2, 1);
        x.write(0, 0);
        for (int access = 2; access <= 8; access++) {
            Check.due("written within the latest 8", x.read(1, 0), 6);
        }
        Check.due("accesses since", x.page(0, 6), 7);
        Check.due("written 8 accesses ago", x.read(1, 0), 21);
        Check.due("accesses since", x.page(0, 6), 8);
    }

    private static void copyingOfWhatWasNeverWritten() {
        HopHomes x = Check.make(Check.at(0), Check.at(1));
        x.set(0, 2);
        x.set(2, 1);
        Check.due("never written", x.page(0, 6), HopHomes.NONE);
        Check.due("the first access copies", x.read(0, 0), 21);
    }

    private static void copyingOnlyForPaidHops() {
        HopHomes x = Check.make(Check.at(1), Check.at(1));
        x.set(0, 2);
        x.set(2, 1);
        Check.due("read at home", x.read(0, 0), 1);
        Check.due("no copy", x.count(7), 0);
        x.go(0, 2);
        Check.due("read one hop away", x.read(0, 0), 21);
        Check.due("read of the copy", x.read(0, 0), 1);
        Check.due("no second copy", x.count(7), 1);
    }

    private static void copyingWithoutToll() {
        HopHomes x = Check.make(Check.at(1), Check.at(3));
        x.set(0, 2);
        x.set(1, 0);
        x.set(2, 1);
        Check.due("hops are paid without a toll", x.read(0, 0), 11);
        Check.due("a copy is made", x.page(0, 1), 8);
        Check.due("hops", x.thread(0, 2), 4);
    }

    private static void copyingFromNearest() {
        HopHomes x = Check.make(Check.at(0), Check.at(2, 3, 1));
        x.set(0, 2);
        x.set(2, 1);
        Check.due("from two hops away", x.read(0, 0), 31);
        x.set(1, 7);
        Check.due("from one hop away", x.read(1, 0), 25);
        Check.due("from one hop away", x.read(2, 0), 25);
        Check.due("copies", x.page(0, 1), 14);
        Check.due("hops", x.page(0, 7), 4 + 2 + 2);
    }

    private static void writingNeverCopies() {
        HopHomes x = Check.make(Check.at(0), Check.at(1));
        x.set(0, 2);
        x.set(2, 1);
        for (int i = 0; i < 10; i++) {
            Check.due("write", x.write(0, 0), 6);
        }
        Check.due("no copy", x.count(7), 0);
        Check.due("nor a moving", x.count(6), 0);
    }

    private static void copyElseMove() {
        HopHomes x = Check.make(Check.at(0), Check.at(1));
        x.set(0, 3);
        x.set(2, 3);
        Check.due("write", x.write(0, 0), 6);
        Check.due("no copy since written, so a moving", x.read(0, 0), 21);
        Check.due("the new home", x.page(0, 0), 1);
        Check.due("no copy", x.count(7), 0);
        Check.due("a moving", x.count(6), 1);
    }

    private static void copyIsNotMoved() {
        HopHomes x = Check.make(Check.at(0), Check.at(1));
        x.set(0, 3);
        x.set(2, 1);
        Check.due("a copy, and no moving besides", x.read(0, 0), 21);
        Check.due("movings", x.count(6), 0);
        Check.due("then the copy is read, and the page moves", x.read(0, 0), 1 + 15);
        Check.due("movings", x.count(6), 1);
        Check.due("its own copy gave way", x.count(8), 1);
    }

    private static void earliestUseGivesWay() {
        HopHomes x = Check.make(Check.at(0, 0, 0), Check.at(1));
        x.set(0, 2);
        x.set(2, 1);
        x.setFrames(1, 2);
        x.read(0, 1);
        x.read(0, 0);
        Check.due("the first to give way", x.home(1, 5), 1);
        x.read(0, 1);
        Check.due("the first to give way", x.home(1, 5), 0);
        Check.due("a copy for a copy", x.read(0, 2), 21);
        Check.due("it gave way", x.page(0, 1), 0);
        Check.due("the other stays", x.page(1, 1), 2);
        Check.due("gave way", x.count(8), 1);
        Check.due("made", x.event(0, 0), 1);
        int[] event = {2, 0, 1, 4};
        for (int what = 0; what < 4; what++) {
            Check.due("event(1, " + what + ")", x.event(1, what), event[what]);
        }
        Check.due("no denial", x.count(9), 0);
    }

    private static void severalGiveWay() {
        HopHomes x = Check.make(Check.at(0, 0, 0, 0), Check.at(1));
        x.set(0, 2);
        x.set(2, 1);
        x.read(0, 2);
        x.read(0, 0);
        x.read(0, 1);
        x.setFrames(1, 2);
        Check.due("free frames", x.home(1, 3), 0);
        Check.due("copies stay with fewer frames", x.home(1, 2), 3);
        Check.due("a copy", x.read(0, 3), 21);
        Check.due("two gave way", x.count(8), 2);
        Check.due("the earlier one first", x.event(2, 1), 2);
        Check.due("then the next one", x.event(1, 1), 0);
        Check.due("copies then", x.home(1, 2), 2);
    }

    private static void givenWayAlthoughDenied() {
        HopHomes x = Check.make(Check.at(0, 1, 0), Check.at(1));
        x.set(0, 2);
        x.set(2, 1);
        x.read(0, 0);
        x.setFrames(1, 1);
        Check.due("a copy that is denied costs nothing", x.read(0, 2), 6);
        Check.due("denials", x.count(9), 1);
        Check.due("the copy that gave way stays gone", x.page(0, 1), 0);
        int[] event = {5, 2, 1, 2};
        for (int what = 0; what < 4; what++) {
            Check.due("event(0, " + what + ")", x.event(0, what), event[what]);
        }
        Check.due("ahead of it", x.event(1, 0), 2);
    }

    private static void ownCopyGivesWay() {
        HopHomes x = Check.make(Check.at(0, 0), Check.at(1));
        x.set(0, 2);
        x.set(2, 1);
        x.read(0, 0);
        x.read(0, 1);
        x.setFrames(1, 2);
        x.set(0, 1);
        Check.due("a moving to where its copy is", x.read(0, 1), 16);
        Check.due("only its own copy gave way", x.count(8), 1);
        Check.due("the other copy stays", x.page(0, 1), 2);
        Check.due("its own is gone", x.page(1, 1), 0);
        Check.due("it lies there", x.page(1, 0), 1);
        Check.due("the event of it", x.event(1, 0), 2);
        Check.due("the page of it", x.event(1, 1), 1);
    }

    private static void ownCopyGivesWayAlthoughDenied() {
        HopHomes x = Check.make(Check.at(0, 1), Check.at(1));
        x.set(0, 2);
        x.set(2, 1);
        x.read(0, 0);
        x.setFrames(1, 1);
        x.set(0, 1);
        Check.due("a moving that is denied", x.read(0, 0), 1);
        Check.due("its own copy gave way", x.page(0, 1), 0);
        Check.due("gave way", x.count(8), 1);
        Check.due("denials", x.count(9), 1);
        Check.due("it stays where it was", x.page(0, 0), 0);
        Check.due("counters are not halved", x.page(0, 11), 2);
        Check.due("denied", x.event(0, 0), 5);
        Check.due("gave way ahead of it", x.event(1, 0), 2);
    }

    private static void bothDenied() {
        HopHomes x = Check.make(Check.at(0, 1), Check.at(1));
        x.set(0, 3);
        x.set(2, 1);
        x.setFrames(1, 1);
        Check.due("copying and moving are denied", x.read(0, 0), 6);
        Check.due("denials", x.count(9), 2);
        Check.due("denied", x.event(0, 0), 5);
        Check.due("denied", x.event(1, 0), 5);
        Check.due("two events", x.event(2, 0), HopHomes.NONE);
        Check.due("only the moving of a write is denied", x.write(0, 0), 6);
        Check.due("denials", x.count(9), 3);
    }

    /** A page in home 0 with a thread at each of the homes 0 and 1. */
    private static HopHomes restless() {
        HopHomes x = Check.make(Check.at(0), Check.at(0, 1));
        x.set(2, 1);
        return x;
    }

    /** Lets the thread that is not at the home of page 0 read it so that it moves there. */
    private static void moveOver(HopHomes x) {
        for (int i = 0; i < 10; i++) {
            x.fade();
        }
        x.set(0, 1);
        int target = 1 - x.page(0, 0);
        Check.due("reading and moving", x.read(target, 0), 21);
        Check.due("the new home", x.page(0, 0), target);
        x.set(0, 0);
    }

    private static void readOften(HopHomes x, int times) {
        for (int i = 0; i < times; i++) {
            x.read(0, 0);
        }
    }

    private static void freezingWithinTwenty() {
        HopHomes x = restless();
        moveOver(x);
        readOften(x, 9);
        moveOver(x);
        readOften(x, 8);
        moveOver(x);
        Check.due("the first of three 19 accesses ago", x.page(0, 5), 30);
        Check.due("frozen", x.event(0, 0), 4);
        Check.due("frozen page", x.event(0, 1), 0);
        Check.due("frozen where it lies", x.event(0, 2), 1);
        Check.due("frozen at", x.event(0, 3), 20);
        Check.due("moved ahead of it", x.event(1, 0), 0);
        Check.due("frozen pages", x.count(10), 1);

        x = restless();
        moveOver(x);
        readOften(x, 9);
        moveOver(x);
        readOften(x, 9);
        moveOver(x);
        Check.due("the first of three 20 accesses ago", x.page(0, 5), 0);
        Check.due("only moved", x.event(0, 0), 0);
        Check.due("frozen pages", x.count(10), 0);
        moveOver(x);
        Check.due("the next three", x.page(0, 5), 30);
    }

    private static void frozenForThirty() {
        HopHomes x = restless();
        moveOver(x);
        moveOver(x);
        moveOver(x);
        Check.due("frozen", x.page(0, 5), 30);
        x.set(0, 1);
        for (int left = 29; left >= 0; left--) {
            Check.due("not moved while frozen", x.read(0, 0), 6);
            Check.due("still frozen for", x.page(0, 5), left);
        }
        Check.due("frozen pages", x.count(10), 0);
        Check.due("moved behind that", x.read(0, 0), 21);
        Check.due("not frozen by one moving", x.page(0, 5), 0);
    }
}
