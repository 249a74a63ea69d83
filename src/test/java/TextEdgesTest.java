/** Edges of texts and traces: 60 characters, what is allowed at each place, pages and threads. */
public final class TextEdgesTest {
    private static final String KINDS = "rwg";
    private static final String DIGITS = "0123456789";

    public static void main(String[] args) {
        sixtyCharacters();
        textsOfAnyCharacters();
        kinds();
        threadDigits();
        dots();
        firstDigits();
        secondDigits();
        semicolons();
        tooShort();
        sixtyOfATrace();
        pagesOfTraces();
        threadsOfTraces();
        homesOfTraces();
        unknownInAnyStep();
        goingNowhere();
        oneStep();
        trialsOfNow();
        eachPolicyCanBeBest();
        lowestOfSeveral();
        Check.end();
    }

    private static void sixtyCharacters() {
        HopHomes x = new HopHomes();
        Check.due("the empty text", x.count(15), 0);
        Check.due("clearText of the empty text", x.clearText(), 0);
        for (int length = 1; length <= 60; length++) {
            Check.due("the length then", x.type('r'), length);
            Check.due("the length", x.count(15), length);
        }
        Check.due("one more", x.type('r'), HopHomes.FULL);
        Check.due("one more", x.type((char) 0), HopHomes.FULL);
        Check.due("the length", x.count(15), 60);
        Check.due("clearText of the full text", x.clearText(), 60);
        Check.due("the length", x.count(15), 0);
        for (int length = 1; length <= 60; length++) {
            Check.due("again", x.type(';'), length);
        }
        Check.due("one more", x.type(';'), HopHomes.FULL);
        x.clearText();
        Check.due("one", x.type('g'), 1);
        Check.due("clearText of one", x.clearText(), 1);
    }

    private static void textsOfAnyCharacters() {
        int[] characters = {0, 1, 9, 10, 31, 32, 127, 128, 255, 256, 0x7FFF, 0x8000, 0xD800, 0xFFFF};
        HopHomes x = new HopHomes();
        for (int i = 0; i < characters.length; i++) {
            Check.due("type of " + characters[i], x.type((char) characters[i]), i + 1);
        }
        Check.due("a fault at 0", x.perform(), -100);
    }

    /**
     * Tries characters behind a text: those that are allowed leave a trace or a text that ends too
     * early, and all others are the fault. Those above 255 with the low byte of a character that
     * is used in traces are tried too.
     */
    private static void place(String text, String allowed, boolean endsWell) {
        HopHomes x = null;
        int tried = 0;
        for (int number = 0; number < 65536; number++) {
            char character = (char) number;
            boolean likeUsed = (KINDS + DIGITS + ".;").indexOf((char) (number % 256)) >= 0;
            if (number >= 512 && !likeUsed) {
                continue;
            }
            if (tried % 20 == 0) {
                x = Check.make(Check.at(0), Check.at(0));
            }
            tried++;
            Check.type(x, text + character);
            boolean fits = allowed.indexOf(character) >= 0;
            int answer = x.perform();
            if (fits && endsWell) {
                Check.holds(text + character + " is a trace", answer >= 0 || answer == HopHomes.UNKNOWN);
            } else {
                int fault = fits ? text.length() + 1 : text.length();
                Check.due("character " + number + " behind " + text, answer, -100 - fault);
            }
        }
    }

    private static void kinds() {
        place("", KINDS, false);
        place("r0.0;", KINDS, false);
        place("w9.99;", KINDS, false);
        place("g0.3;", KINDS, false);
    }

    private static void threadDigits() {
        place("r", DIGITS, false);
        place("w", DIGITS, false);
        place("g", DIGITS, false);
        place("g0.0;g", DIGITS, false);
    }

    private static void dots() {
        place("r0", ".", false);
        place("w9", ".", false);
        place("g4", ".", false);
    }

    private static void firstDigits() {
        place("r0.", DIGITS, true);
        place("w0.", DIGITS, true);
        place("g0.", "0123", true);
        place("g9.", "0123", true);
    }

    /** "Without a zero in front unless it is the single digit 0". */
    private static void secondDigits() {
        place("r0.0", ";", false);
        place("w0.0", ";", false);
        for (int digit = 1; digit <= 9; digit++) {
            seconds("r0." + digit);
            seconds("w0." + digit);
        }
        for (int home = 0; home <= 3; home++) {
            place("g0." + home, ";", false);
        }
    }

    private static void seconds(String text) {
        for (char digit : DIGITS.toCharArray()) {
            HopHomes x = Check.make(Check.at(0), Check.at(0));
            Check.type(x, text + digit);
            Check.due("no page " + text + digit, x.perform(), HopHomes.UNKNOWN);
            Check.due("the text is " + x.type(';') + " long", x.perform(), -106);
        }
        for (char wrong : new char[] {'/', ':', '.', 'r', 'w', 'g', '-', ' ', '<', 0, 0x660, 0xFF10}) {
            fault(text + wrong, 4);
        }
        fault(text + ";", 5);
    }

    private static void semicolons() {
        place("r0.10", ";", false);
        place("w0.99", ";", false);
        place("r0.0;r0.1", DIGITS + ";", false, DIGITS);
    }

    /** As above, where some of those that are allowed end the text well, and the others don't. */
    private static void place(String text, String allowed, boolean endsWell, String ends) {
        for (char character : allowed.toCharArray()) {
            HopHomes x = Check.make(Check.at(0), Check.at(0));
            Check.type(x, text + character);
            boolean well = ends.indexOf(character) >= 0;
            int due = well ? HopHomes.UNKNOWN : -100 - text.length() - 1;
            Check.due(text + character, x.perform(), due);
        }
    }

    private static void fault(String text, int fault) {
        HopHomes x = Check.make(Check.at(0), Check.at(0));
        Check.type(x, text);
        Check.due("perform of " + text, x.perform(), -100 - fault);
        Check.due("bestPolicy of " + text, x.bestPolicy(), -100 - fault);
        for (int policy = 0; policy < 4; policy++) {
            Check.due("trial of " + text, x.trial(policy), -100 - fault);
        }
    }

    /** Each beginning of a trace: the length of the text, unless it is a trace itself. */
    private static void tooShort() {
        String text = "r0.0;g0.3;w0.0;g0.0";
        for (int end = 0; end <= text.length(); end++) {
            String start = text.substring(0, end);
            if (end % 5 == 4) {
                HopHomes x = Check.make(Check.at(0), Check.at(0));
                Check.type(x, start);
                Check.holds(start + " is a trace", x.perform() >= 0);
            } else {
                fault(start, end);
            }
        }
        fault("", 0);
        fault("r0.10;", 6);
    }

    private static void sixtyOfATrace() {
        String steps = "r0.0;r0.0;r0.0;r0.0;r0.0;r0.0;r0.0;r0.0;r0.0;r0.0;r0.0;";
        int[] many = new int[11];
        HopHomes x = Check.make(new int[] {0, 0, 0, 0, 0, 0, 1, 1, 1, 1, 1}, Check.at(0));
        Check.due("eleven pages", x.count(1), many.length);
        Check.type(x, steps + "r0.1");
        Check.due("59 characters", x.count(15), 59);
        Check.due("twelve steps", x.perform(), 12);
        Check.due("the 60th character", x.type('0'), 60);
        Check.due("is of the trace", x.perform(), 11 + 6);
        Check.due("accesses of page 10", x.page(10, 2), 1);
        Check.due("the 61st", x.type(';'), HopHomes.FULL);
        Check.due("is not", x.perform(), 11 + 6);
        fault(steps + "r0.1;", 60);
        fault(steps + "r0.0x", 59);
        fault(steps + "r0.0;", 60);
        fault(steps + "r0.x0", 58);
        fault(steps + "x0.10", 55);
    }

    private static void pagesOfTraces() {
        HopHomes x = new HopHomes();
        for (int home = 0; home < 2; home++) {
            x.setFrames(home, 20);
            for (int page = 0; page < 20; page++) {
                x.addPage(home);
            }
        }
        x.addThread(0);
        for (int page : new int[] {0, 1, 9, 10, 11, 19}) {
            Check.type(x, "r0." + page + ";w0." + page);
            Check.due("accesses to page " + page, x.perform(), 2);
            Check.due("accesses", x.page(page, 2), 2);
        }
        for (int page : new int[] {20, 29, 30, 38, 39}) {
            Check.type(x, "r0." + page);
            Check.due("page " + page + ", a hop away", x.perform(), 6);
        }
        for (int page : new int[] {40, 41, 49, 50, 99}) {
            Check.type(x, "r0." + page);
            Check.due("page " + page, x.perform(), HopHomes.UNKNOWN);
            Check.due("page " + page, x.trial(1), HopHomes.UNKNOWN);
            Check.due("page " + page, x.bestPolicy(), HopHomes.UNKNOWN);
        }
        x.undo();
        fault("r0.100", 5);
    }

    private static void threadsOfTraces() {
        HopHomes x = Check.make(Check.at(0), Check.at(0, 0, 0, 0, 0, 0, 0));
        for (String kind : new String[] {"r7.0", "w7.0", "g7.0"}) {
            Check.type(x, kind);
            Check.due(kind + " without thread 7", x.perform(), HopHomes.UNKNOWN);
        }
        x.addThread(2);
        int[] due = {11, 11, 0};
        int number = 0;
        for (String kind : new String[] {"r7.0", "w7.0", "g7.0"}) {
            Check.type(x, kind);
            Check.due(kind + " with thread 7", x.perform(), due[number]);
            number++;
        }
        for (String kind : new String[] {"r8.0", "w8.0", "g8.0", "r9.0", "w9.0", "g9.0"}) {
            Check.type(x, kind);
            Check.due(kind + " with eight threads", x.perform(), HopHomes.UNKNOWN);
        }
    }

    private static void homesOfTraces() {
        for (int home = 0; home <= 3; home++) {
            HopHomes x = Check.make(Check.at(), Check.at(1));
            Check.type(x, "g0." + home);
            Check.due("going costs nothing", x.perform(), 0);
            Check.due("where it is", x.thread(0, 0), home);
        }
        for (int home = 4; home <= 9; home++) {
            fault("g0." + home, 3);
        }
    }

    /** "All steps, or none": wherever the step stands that is not known. */
    private static void unknownInAnyStep() {
        String[] steps = {"r0.0", "g0.1", "w0.0", "g0.2", "r0.0"};
        for (int at = 0; at < steps.length; at++) {
            for (String wrong : new String[] {"r1.0", "w0.1", "g1.2", "r0.10"}) {
                StringBuilder text = new StringBuilder();
                for (int i = 0; i < steps.length; i++) {
                    text.append(i == 0 ? "" : ";").append(i == at ? wrong : steps[i]);
                }
                HopHomes x = Check.make(Check.at(0), Check.at(0));
                Check.type(x, text.toString());
                Check.due("perform of " + text, x.perform(), HopHomes.UNKNOWN);
                Check.due("no time passes", x.count(0), 0);
                Check.due("it stays where it is", x.thread(0, 0), 0);
                Check.due("no state", x.count(14), 2);
            }
        }
    }

    /** "Also where it is already": that is no error and not NONE, and an act. */
    private static void goingNowhere() {
        HopHomes x = Check.make(Check.at(), Check.at(2));
        Check.due("NONE by go", x.go(0, 2), HopHomes.NONE);
        Check.type(x, "g0.2");
        Check.due("states", x.count(14), 1);
        Check.due("0 by perform", x.perform(), 0);
        Check.due("states", x.count(14), 2);
        Check.due("0 by trial", x.trial(3), 0);
        Check.due("the policy of the lowest number", x.bestPolicy(), 0);
    }

    private static void oneStep() {
        HopHomes x = Check.make(Check.at(3), Check.at(1));
        Check.type(x, "w0.0");
        Check.due("one write", x.perform(), 11);
        Check.due("the time", x.count(0), 1);
        Check.due("writes", x.page(0, 3), 1);
    }

    /** "From now on, all else as it is": counters, copies and frozen pages count for a trial. */
    private static void trialsOfNow() {
        HopHomes x = Check.make(Check.at(0), Check.at(1));
        Check.type(x, "r0.0");
        for (int reads = 1; reads <= 3; reads++) {
            Check.due("below the threshold", x.trial(1), 6);
            Check.due("below the threshold", x.trial(2), 6);
            x.read(0, 0);
        }
        Check.due("at the threshold", x.trial(1), 21);
        Check.due("at the threshold", x.trial(2), 21);
        Check.due("nothing by policy 0", x.trial(0), 6);
        x.set(1, 9);
        Check.due("another toll", x.trial(1), 10 + 19);
        x.set(2, 5);
        Check.due("another threshold", x.trial(1), 10);
        x.set(0, 2);
        Check.due("the policy that is tried", x.trial(0), 10);
        x.set(2, 1);
        x.read(0, 0);
        Check.due("the copy is there", x.trial(0), 1);
        x.setFrames(1, 1);
        Check.due("its own copy gives way to it", x.trial(1), 1 + 19);
        Check.due("the copy is still there", x.page(0, 1), 2);
        Check.due("none gave way", x.count(8), 0);
    }

    private static void best(HopHomes x, String text, int... due) {
        Check.type(x, text);
        int best = 0;
        for (int policy = 0; policy < 4; policy++) {
            Check.due("policy " + policy + " for " + text, x.trial(policy), due[policy]);
            best = due[policy] < due[best] ? policy : best;
        }
        Check.due("the best one for " + text, x.bestPolicy(), best);
    }

    private static void eachPolicyCanBeBest() {
        HopHomes x = Check.make(Check.at(0, 0), Check.at(1, 0));
        x.set(2, 1);
        best(x, "r0.0", 6, 21, 21, 21);
        best(x, "w0.0;w0.0;w0.0;w0.0;w0.0", 30, 25, 30, 25);
        for (int i = 0; i < 5; i++) {
            x.read(1, 0);
        }
        best(x, "r0.0;r0.0;r0.0;r0.0;r0.0", 30, 30, 25, 25);
        x.set(1, 50);
        best(x, "r0.0;r0.0;r0.0;w0.1;w0.1;w0.1", 306, 153 + 113, 113 + 153, 113 + 113);
    }

    private static void lowestOfSeveral() {
        HopHomes x = Check.make(Check.at(0), Check.at(0, 1));
        x.set(2, 1);
        best(x, "r0.0;w0.0", 2, 2, 2, 2);
        x.set(1, 15);
        best(x, "r1.0;g1.0", 16, 41, 41, 41);
        best(x, "w1.0;w1.0;w1.0", 48, 43, 48, 43);
        x.read(0, 0);
        best(x, "r1.0;r1.0;r1.0", 48, 48 + 25, 16 + 25 + 2, 16 + 25 + 2 + 25);
    }
}
