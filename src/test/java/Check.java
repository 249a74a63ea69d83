/** Compares answers with those that are due, and ends a test. */
final class Check {
    private static int compared = 0;
    private static int wrong = 0;

    private Check() {
    }

    static void due(String call, long got, long want) {
        compared++;
        if (got != want) {
            wrong++;
            System.out.println(call + " answered " + got + ", due is " + want);
        }
    }

    static void holds(String what, boolean is) {
        compared++;
        if (!is) {
            wrong++;
            System.out.println("does not hold: " + what);
        }
    }

    static void end() {
        System.out.println(compared + " answers compared, " + wrong + " wrong");
        if (wrong != 0 || compared == 0) {
            System.exit(1);
        }
    }

    /** Empties the text and types another one. */
    static void type(HopHomes x, String text) {
        x.clearText();
        for (int i = 0; i < text.length(); i++) {
            due("type of character " + i + " of " + text, x.type(text.charAt(i)), i + 1);
        }
    }

    /** Makes homes with a page in each of some homes and a thread at each of some homes. */
    static HopHomes make(int[] pages, int[] threads) {
        HopHomes x = new HopHomes();
        for (int i = 0; i < pages.length; i++) {
            due("addPage(" + pages[i] + ")", x.addPage(pages[i]), i);
        }
        for (int i = 0; i < threads.length; i++) {
            due("addThread(" + threads[i] + ")", x.addThread(threads[i]), i);
        }
        return x;
    }

    /** What lies outside of a range: the numbers next to it, and the least and greatest ones. */
    static int[] outside(int first, int last) {
        return new int[] {first - 1, last + 1, Integer.MIN_VALUE, Integer.MAX_VALUE};
    }

    static int[] at(int... homes) {
        return homes;
    }
}
