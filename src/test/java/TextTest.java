/** Promises 10 to 12, 21 and 22: type, clearText, perform, trial, bestPolicy. */
public final class TextTest {
    public static void main(String[] args) {
        typing();
        faults();
        unknown();
        performing();
        performIsOneAct();
        goingInText();
        trying();
        tryingChangesNothing();
        bestOfPolicies();
        Check.end();
    }

    private static void typing() {
        HopHomes x = new HopHomes();
        Check.due("clearText of nothing", x.clearText(), 0);
        for (int length = 1; length <= 60; length++) {
            Check.due("type", x.type((char) (length * 1000)), length);
        }
        Check.due("the 61st character", x.type('r'), HopHomes.FULL);
        Check.due("the length", x.count(15), 60);
        Check.due("typing is no act", x.count(14), 0);
        Check.due("clearText", x.clearText(), 60);
        Check.due("clearText again", x.clearText(), 0);
        Check.due("type", x.type((char) 0), 1);
    }

    private static void fault(String text, int fault) {
        HopHomes x = Check.make(Check.at(0), Check.at(0));
        Check.type(x, text);
        Check.due("perform of " + text, x.perform(), -100 - fault);
        Check.due("trial of " + text, x.trial(3), -100 - fault);
        Check.due("bestPolicy of " + text, x.bestPolicy(), -100 - fault);
        Check.due("the text stays", x.count(15), text.length());
        Check.due("nothing is recorded", x.count(14), 2);
    }

    private static void faults() {
        fault("", 0);
        fault("r", 1);
        fault("r0", 2);
        fault("r0.", 3);
        fault("g0.", 3);
        fault("r0.0;", 5);
        fault("x0.0", 0);
        fault("R0.0", 0);
        fault(" r0.0", 0);
        fault(";r0.0", 0);
        fault("rr.0", 1);
        fault("r/.0", 1);
        fault("r:.0", 1);
        fault("r00.0", 2);
        fault("r0,0", 2);
        fault("r0..", 3);
        fault("r0.-1", 3);
        fault("r0./", 3);
        fault("r0.:", 3);
        fault("r0.00", 4);
        fault("w0.01", 4);
        fault("r0.0 ", 4);
        fault("r0.1x", 4);
        fault("r0.123", 5);
        fault("r0.10r", 5);
        fault("g0.4", 3);
        fault("g0.9", 3);
        fault("g0.10", 4);
        fault("g0.0;;", 5);
        fault("g0.0;g0.3;h", 10);
        fault("r9.99;w9.99;r9.9x", 16);
        fault("r0." + (char) 0x0661, 3);
        fault("r0.0" + (char) 0xFF1B, 4);
        fault("r0.0;r0.0;r0.0;r0.0;r0.0;r0.0;r0.0;r0.0;r0.0;r0.0;r0.0;r0.0;", 60);
    }

    private static void unknown() {
        String[] texts = {"r1.0", "w1.0", "g1.0", "g9.3", "r0.1", "w0.10", "r0.99", "g0.1;r0.0;w0.7"};
        for (String text : texts) {
            HopHomes x = Check.make(Check.at(0), Check.at(0));
            Check.type(x, text);
            Check.due("perform of " + text, x.perform(), HopHomes.UNKNOWN);
            Check.due("trial of " + text, x.trial(0), HopHomes.UNKNOWN);
            Check.due("bestPolicy of " + text, x.bestPolicy(), HopHomes.UNKNOWN);
            Check.due("no step is done", x.thread(0, 0), 0);
            Check.due("no time passes", x.count(0), 0);
            Check.due("nothing is recorded", x.count(14), 2);
        }
        HopHomes x = Check.make(Check.at(0), Check.at(0));
        Check.type(x, "r5.5;x");
        Check.due("the fault ahead of the unknown", x.perform(), -105);
        Check.due("the policy ahead of the fault", x.trial(4), HopHomes.BAD_VALUE);
    }

    private static void performing() {
        HopHomes x = Check.make(Check.at(0, 3), Check.at(0, 2));
        Check.type(x, "r0.0;w1.1;r1.0");
        Check.due("1 and 6 and 11", x.perform(), 18);
        Check.due("the text stays", x.count(15), 14);
        Check.due("the time", x.count(0), 3);
        Check.due("reads", x.thread(1, 3), 1);
        Check.due("writes", x.thread(1, 4), 1);
        Check.due("paid", x.thread(1, 1), 17);
        Check.due("once more", x.perform(), 18);
        HopHomes y = new HopHomes();
        for (int home = 0; home < 4; home++) {
            y.setFrames(home, 10);
            for (int page = 0; page < 10; page++) {
                y.addPage(home);
            }
        }
        y.addThread(0);
        Check.type(y, "r0.39;w0.9;r0.10");
        Check.due("pages of two digits", y.perform(), 6 + 1 + 6);
        Check.due("page 39", y.page(39, 2), 1);
        Check.due("page 9", y.page(9, 3), 1);
        Check.due("page 10", y.page(10, 2), 1);
        Check.type(y, "r0.40");
        Check.due("page 40", y.perform(), HopHomes.UNKNOWN);
    }

    private static void performIsOneAct() {
        HopHomes x = Check.make(Check.at(0), Check.at(1));
        Check.type(x, "r0.0;w0.0;g0.0;w0.0");
        Check.due("perform", x.perform(), 13);
        Check.due("one state", x.count(14), 3);
        Check.due("undo", x.undo(), 2);
        Check.due("the time", x.count(0), 0);
        Check.due("the thread", x.thread(0, 0), 1);
        Check.due("the text is no part of the state", x.count(15), 19);
        Check.type(x, "g0.1");
        Check.due("going to where it is, for nothing", x.perform(), 0);
        Check.due("is an act all the same", x.count(14), 3);
    }

    private static void goingInText() {
        HopHomes x = Check.make(Check.at(0), Check.at(1));
        Check.type(x, "g0.2;r0.0;g0.3;r0.0;g0.0;r0.0");
        Check.due("perform", x.perform(), 11 + 6 + 1);
        Check.due("where it is", x.thread(0, 0), 0);
        Check.due("going takes no time", x.count(0), 3);
    }

    private static void trying() {
        HopHomes x = Check.make(Check.at(0), Check.at(1));
        x.set(2, 2);
        Check.type(x, "r0.0;r0.0;r0.0;w0.0");
        Check.due("policy 0", x.trial(0), 6 * 4);
        Check.due("policy 1", x.trial(1), 6 + 21 + 1 + 1);
        Check.due("policy 2", x.trial(2), 6 + 21 + 1 + 11);
        // The copy is made by the second read; by the third, the page moves to it.
        Check.due("policy 3", x.trial(3), 6 + 21 + 16 + 1);
        Check.due("trial(-1)", x.trial(-1), HopHomes.BAD_VALUE);
        Check.due("trial(4)", x.trial(4), HopHomes.BAD_VALUE);
        Check.due("the best one", x.bestPolicy(), 0);
    }

    private static void tryingChangesNothing() {
        HopHomes x = Check.make(Check.at(0), Check.at(1));
        x.set(2, 1);
        x.set(0, 1);
        Check.type(x, "g0.2;r0.0;r0.0");
        Check.due("trial", x.trial(2), 32);
        Check.due("bestPolicy", x.bestPolicy(), 0);
        Check.due("the policy", x.count(11), 1);
        Check.due("the time", x.count(0), 0);
        Check.due("the thread", x.thread(0, 0), 1);
        Check.due("the page", x.page(0, 2), 0);
        Check.due("the states", x.count(14), 4);
        Check.due("no event", x.event(0, 0), HopHomes.NONE);
        Check.due("trial again", x.trial(2), 32);
        Check.due("perform", x.perform(), 32);
        Check.due("trial from now on", x.trial(0), 2);
    }

    private static void bestOfPolicies() {
        HopHomes x = Check.make(Check.at(0), Check.at(2));
        x.set(2, 1);
        x.set(1, 20);
        Check.type(x, "r0.0;r0.0;r0.0;r0.0;r0.0;r0.0");
        Check.due("policy 0", x.trial(0), 6 * 41);
        Check.due("policy 1", x.trial(1), 41 + 50 + 5);
        Check.due("policy 2", x.trial(2), 41 + 50 + 5);
        Check.due("policy 3", x.trial(3), 41 + 50 + 1 + 50 + 4);
        Check.due("the lowest of several", x.bestPolicy(), 1);
        Check.type(x, "w0.0;w0.0");
        Check.due("policy 1", x.trial(1), 92);
        Check.due("policy 0", x.trial(0), 82);
        Check.due("none is better than to do nothing", x.bestPolicy(), 0);
        HopHomes y = Check.make(Check.at(0), Check.at(1, 0));
        y.set(2, 1);
        y.set(1, 50);
        Check.type(y, "r1.0;r0.0;r0.0;r0.0");
        Check.due("policy 0", y.trial(0), 1 + 3 * 51);
        Check.due("policy 1 moves when 3 is more than twice 1", y.trial(1), 1 + 3 * 51 + 60);
        Check.due("policy 2 copies", y.trial(2), 1 + 51 + 60 + 2);
        Check.due("policy 3 copies, then moves", y.trial(3), 1 + 51 + 60 + 2 + 60);
        Check.due("copying is best", y.bestPolicy(), 2);
    }
}
