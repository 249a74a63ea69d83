/** States in which calls are tried: from a new object to one in which all of the terms are met. */
final class States {
    private States() {
    }

    static HopHomes fresh() {
        return new HopHomes();
    }

    /** Three pages and two threads, and nothing done with them. */
    static HopHomes quiet() {
        return Check.make(Check.at(0, 1, 2), Check.at(1, 3));
    }

    /**
     * Copies, a frozen page, a full home, one with more taken than it has frames, more than ten
     * events, a trace as text, a snapshot and four states in the history.
     */
    static HopHomes busy() {
        HopHomes x = quiet();
        x.set(0, 1);
        x.set(2, 1);
        // By turns to where it does not lie: the third moving freezes page 0 in home 1.
        x.read(0, 0);
        x.read(1, 0);
        x.read(0, 0);
        x.set(0, 3);
        x.set(1, 7);
        x.read(1, 1);
        x.read(1, 0);
        x.read(0, 2);
        x.write(1, 2);
        x.addPage(0);
        x.setFrames(3, 2);
        x.read(1, 3);
        x.setFrames(1, 1);
        x.read(0, 3);
        x.keep();
        x.addPage(2);
        x.setFrames(2, 3);
        x.setFrames(3, 4);
        x.write(0, 1);
        x.read(1, 0);
        x.read(0, 4);
        x.go(0, 2);
        x.read(0, 0);
        x.read(0, 3);
        x.setFrames(3, 2);
        x.read(1, 3);
        x.read(0, 0);
        Check.type(x, "r0.4;g1.1;w1.4;r1.2");
        return x;
    }

    /** Forty pages and eight threads; home 0 is full, home 1 has one free frame. */
    static HopHomes full() {
        HopHomes x = new HopHomes();
        int[] frames = {10, 11, 12, 13};
        for (int home = 0; home < 4; home++) {
            x.setFrames(home, frames[home]);
            for (int i = 0; i < 10; i++) {
                x.addPage(home);
            }
            x.addThread(home);
            x.addThread(3 - home);
        }
        x.keep();
        Check.type(x, "w7.39;r0.0;r7.9");
        return x;
    }

    /** Twelve pages, and a text of sixty characters, which is a trace. */
    static HopHomes longText() {
        HopHomes x = Check.make(Check.at(0, 0, 0, 0, 1, 1, 1, 2, 2, 2, 3, 3), Check.at(1, 3));
        x.keep();
        x.set(2, 1);
        Check.type(x, "r0.0;w1.1;r1.2;g0.0;r0.2;w1.0;g1.1;r1.0;r1.1;r1.2;w0.2;r0.10");
        return x;
    }
}
