/** Edges of freezing: 3 movings within the latest 20 accesses, frozen for the next 30 accesses. */
public final class FreezeEdgesTest {
    public static void main(String[] args) {
        twoMovings();
        threeAtOnce();
        threeWithinTwenty();
        threeWithinTwentyBehindOthers();
        otherPagesDoNotCount();
        movingsOfOtherPagesDoNotCount();
        latestThreeOfMore();
        writesCountToo();
        deniedMovingsDoNotCount();
        thirtyAccesses();
        thirtyAccessesByAll();
        otherPagesDoNotThaw();
        fadingDoesNotThaw();
        frozenAgain();
        copiedWhileFrozen();
        deniedWhileFrozen();
        ownCopyWhileFrozen();
        severalFrozen();
        frozenWithinATrace();
        neverMovedIsNotFrozen();
        Check.end();
    }

    /** Pages in home 0 and threads 0 to 3 at the homes 0 to 3; pages are moved where it is said. */
    private static HopHomes made(int... pages) {
        HopHomes x = Check.make(pages, Check.at(0, 1, 2, 3));
        x.set(2, 1);
        return x;
    }

    /** Moves a page between the homes 0 and 1 by one access. */
    private static void moveOver(HopHomes x, int page) {
        for (int i = 0; i < 10; i++) {
            x.fade();
        }
        x.set(0, 1);
        int target = 1 - x.page(page, 0);
        int movings = x.page(page, 4);
        Check.due("reading and moving", x.read(target, page), 21);
        Check.due("movings", x.page(page, 4), movings + 1);
        x.set(0, 0);
    }

    private static void access(HopHomes x, int page, int times) {
        for (int i = 0; i < times; i++) {
            Check.holds("an access", x.read(2, page) > 0);
        }
    }

    private static void moveThrice(HopHomes x, int first, int second) {
        moveOver(x, 0);
        access(x, 0, first);
        moveOver(x, 0);
        access(x, 0, second);
        Check.due("not frozen by two", x.page(0, 5), 0);
        moveOver(x, 0);
    }

    private static void frozen(HopHomes x, int page, int left) {
        Check.due("frozen for", x.page(page, 5), left);
        Check.due("frozen pages", x.count(10), left > 0 ? 1 : 0);
    }

    private static void twoMovings() {
        HopHomes x = made(0);
        moveOver(x, 0);
        frozen(x, 0, 0);
        moveOver(x, 0);
        frozen(x, 0, 0);
        Check.due("only moved", x.event(0, 0), 0);
        Check.due("only moved", x.event(1, 0), 0);
        Check.due("nothing else", x.event(2, 0), HopHomes.NONE);
    }

    private static void threeAtOnce() {
        HopHomes x = made(0);
        moveThrice(x, 0, 0);
        frozen(x, 0, 30);
        int[] frozen = {4, 0, 1, 3};
        int[] moved = {0, 0, 1, 3};
        for (int what = 0; what < 4; what++) {
            Check.due("frozen: event(0, " + what + ")", x.event(0, what), frozen[what]);
            Check.due("moved: event(1, " + what + ")", x.event(1, what), moved[what]);
        }
        Check.due("moved before", x.event(2, 3), 2);
    }

    private static void threeWithinTwenty() {
        int[] firsts = {0, 1, 8, 9, 16, 17};
        for (int first : firsts) {
            HopHomes x = made(0);
            moveThrice(x, first, 17 - first);
            Check.due("accesses", x.page(0, 2), 20);
            frozen(x, 0, 30);
            x = made(0);
            moveThrice(x, first, 18 - first);
            Check.due("accesses", x.page(0, 2), 21);
            frozen(x, 0, 0);
            Check.due("only moved", x.event(0, 0), 0);
        }
    }

    private static void threeWithinTwentyBehindOthers() {
        for (int before = 1; before <= 25; before += 6) {
            HopHomes x = made(0);
            access(x, 0, before);
            moveThrice(x, 10, 7);
            frozen(x, 0, 30);
            x = made(0);
            access(x, 0, before);
            moveThrice(x, 10, 8);
            frozen(x, 0, 0);
        }
    }

    private static void otherPagesDoNotCount() {
        HopHomes x = made(0, 0);
        moveOver(x, 0);
        access(x, 1, 25);
        moveOver(x, 0);
        access(x, 1, 25);
        moveOver(x, 0);
        frozen(x, 0, 30);
    }

    private static void movingsOfOtherPagesDoNotCount() {
        HopHomes x = made(0, 0, 0);
        moveOver(x, 0);
        moveOver(x, 1);
        moveOver(x, 2);
        moveOver(x, 0);
        moveOver(x, 1);
        for (int page = 0; page < 3; page++) {
            frozen(x, page, 0);
        }
        Check.due("movings", x.count(6), 5);
        moveOver(x, 1);
        frozen(x, 1, 30);
        Check.due("not the other one", x.page(0, 5), 0);
    }

    /** Not three of the first ones, but three of the latest ones within 20. */
    private static void latestThreeOfMore() {
        HopHomes x = made(0);
        moveThrice(x, 17, 1);
        frozen(x, 0, 0);
        access(x, 0, 16);
        moveOver(x, 0);
        frozen(x, 0, 30);
        Check.due("movings", x.page(0, 4), 4);
        x = made(0);
        moveThrice(x, 17, 1);
        access(x, 0, 17);
        moveOver(x, 0);
        frozen(x, 0, 0);
        moveOver(x, 0);
        frozen(x, 0, 30);
        Check.due("movings", x.page(0, 4), 5);
    }

    private static void writesCountToo() {
        for (int others = 17; others <= 18; others++) {
            HopHomes x = made(0);
            moveOver(x, 0);
            moveOver(x, 0);
            for (int i = 0; i < others; i++) {
                x.write(2, 0);
            }
            moveOver(x, 0);
            frozen(x, 0, others == 17 ? 30 : 0);
        }
    }

    private static void deniedMovingsDoNotCount() {
        HopHomes x = made(0, 1);
        moveOver(x, 0);
        moveOver(x, 0);
        x.setFrames(1, 1);
        x.fade();
        x.set(0, 1);
        Check.due("denied", x.write(1, 0), 6);
        Check.due("denials", x.count(9), 1);
        frozen(x, 0, 0);
        x.setFrames(1, 2);
        Check.due("moved", x.write(1, 0), 21);
        frozen(x, 0, 30);
    }

    /** Counted at each of the 30 accesses; the 31st moves. */
    private static void thirtyAccesses() {
        HopHomes x = made(0);
        moveThrice(x, 0, 0);
        x.set(0, 1);
        for (int left = 29; left >= 0; left--) {
            Check.due("not moved while frozen", x.write(0, 0), 6);
            Check.due("where it lies", x.page(0, 0), 1);
            frozen(x, 0, left);
        }
        Check.due("moved by the 31st", x.write(0, 0), 21);
        Check.due("where it lies", x.page(0, 0), 0);
        frozen(x, 0, 0);
        Check.due("movings", x.page(0, 4), 4);
        Check.due("no denials", x.count(9), 0);
    }

    /** Accesses count where nothing would be moved too: by any thread and by any policy. */
    private static void thirtyAccessesByAll() {
        HopHomes x = made(0);
        moveThrice(x, 0, 0);
        for (int left = 29; left >= 1; left--) {
            x.set(0, left % 3);
            Check.holds("an access", (left % 2 == 0 ? x.read(1, 0) : x.write(1, 0)) > 0);
            frozen(x, 0, left);
        }
        for (int i = 0; i < 10; i++) {
            x.fade();
        }
        x.set(0, 1);
        Check.due("not moved by the 30th", x.read(0, 0), 6);
        frozen(x, 0, 0);
        Check.due("moved by the 31st", x.read(0, 0), 21);
    }

    private static void otherPagesDoNotThaw() {
        HopHomes x = made(0, 0);
        moveThrice(x, 0, 0);
        access(x, 1, 35);
        frozen(x, 0, 30);
        x.set(0, 1);
        Check.due("not moved", x.write(0, 0), 6);
        frozen(x, 0, 29);
    }

    private static void fadingDoesNotThaw() {
        HopHomes x = made(0);
        moveThrice(x, 0, 0);
        x.write(2, 0);
        Check.due("fade", x.fade(), 1);
        Check.due("fade", x.fade(), 0);
        x.go(0, 3);
        x.setFrames(0, 5);
        frozen(x, 0, 29);
    }

    /** Behind the 30 accesses, three movings freeze again, no less. */
    private static void frozenAgain() {
        HopHomes x = made(0);
        moveThrice(x, 0, 0);
        access(x, 0, 30);
        frozen(x, 0, 0);
        moveOver(x, 0);
        frozen(x, 0, 0);
        moveOver(x, 0);
        frozen(x, 0, 0);
        moveOver(x, 0);
        frozen(x, 0, 30);
        Check.due("frozen in home 0", x.event(0, 2), 0);
        Check.due("frozen at", x.event(0, 3), 36);
    }

    private static void copiedWhileFrozen() {
        for (int policy = 2; policy <= 3; policy++) {
            HopHomes x = made(0);
            moveThrice(x, 0, 0);
            x.set(0, policy);
            Check.due("read and copied", x.read(0, 0), 21);
            Check.due("copies", x.page(0, 1), 1);
            frozen(x, 0, 29);
        }
    }

    /** Where it is frozen, moving isn't asked for, and so not denied. */
    private static void deniedWhileFrozen() {
        HopHomes x = made(0, 0);
        moveThrice(x, 0, 0);
        x.setFrames(0, 1);
        x.set(0, 1);
        Check.due("not moved", x.write(0, 0), 6);
        Check.due("no denial", x.count(9), 0);
        x.set(0, 3);
        access(x, 0, 8);
        int denials = x.count(9);
        Check.due("not copied", x.read(0, 0), 6);
        Check.due("the copying is denied alone", x.count(9), denials + 1);
    }

    private static void ownCopyWhileFrozen() {
        HopHomes x = made(0);
        moveThrice(x, 0, 0);
        x.set(0, 2);
        Check.due("read and copied", x.read(0, 0), 21);
        x.set(0, 1);
        for (int left = 28; left >= 0; left--) {
            Check.due("the copy is read", x.read(0, 0), 1);
            Check.due("it stays", x.page(0, 1), 1);
            frozen(x, 0, left);
        }
        Check.due("moved by the 31st", x.read(0, 0), 16);
        Check.due("its copy gave way", x.page(0, 1), 0);
    }

    private static void severalFrozen() {
        HopHomes x = made(0, 0);
        moveThrice(x, 0, 0);
        Check.due("one", x.count(10), 1);
        for (int i = 0; i < 3; i++) {
            moveOver(x, 1);
        }
        Check.due("two", x.count(10), 2);
        access(x, 0, 29);
        Check.due("still two", x.count(10), 2);
        access(x, 0, 1);
        Check.due("one less", x.count(10), 1);
        access(x, 1, 29);
        Check.due("still one", x.count(10), 1);
        access(x, 1, 1);
        Check.due("none", x.count(10), 0);
    }

    private static void frozenWithinATrace() {
        HopHomes x = made(0);
        x.set(0, 1);
        Check.type(x, "r1.0;r0.0;r1.0;r0.0");
        Check.due("the fourth is not moved", x.trial(1), 21 + 21 + 21 + 6);
        Check.due("trials don't freeze", x.count(10), 0);
        Check.due("the same once more", x.trial(1), 69);
        Check.due("as it is performed", x.perform(), 69);
        frozen(x, 0, 29);
        Check.due("it is frozen now", x.trial(1), 1 + 6 + 1 + 6);
    }

    private static void neverMovedIsNotFrozen() {
        HopHomes x = made(0);
        frozen(x, 0, 0);
        for (int i = 0; i < 40; i++) {
            x.read(i % 4, 0);
            frozen(x, 0, 0);
        }
    }
}
