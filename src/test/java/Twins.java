import java.util.ArrayList;
import java.util.List;

/**
 * Compares two objects that should be in the same state: by all that they tell, and by what they
 * tell behind some more calls, so that what lies hidden (history, snapshot, text, latest uses,
 * movings) is compared too. Objects are made anew for each comparison, since the document promises
 * nothing about one behind its 512th call; a maker may take some 200 calls.
 */
final class Twins {
    private static final int MOST_QUESTIONS = 250;

    /** Makes an object and brings it to a state, the same one each time. */
    interface Maker {
        HopHomes make();
    }

    /** A call, or some calls whose answers are put together to one number. */
    interface Call {
        int on(HopHomes x);
    }

    private record Asked(String name, Call call) {
    }

    private Twins() {
    }

    /** Checks the answer of a call, and that the object is as if it had not been called so. */
    static void unchanged(String name, Maker maker, Call call, int due) {
        Maker called = () -> {
            HopHomes x = maker.make();
            Check.due(name, call.on(x), due);
            return x;
        };
        alike(name, called, maker);
    }

    /** Checks that two makers make the same state, history, snapshot and text. */
    static void alike(String name, Maker one, Maker other) {
        List<Asked> laters = new ArrayList<>(laters());
        for (int times = 1; times <= 5; times++) {
            int undos = times;
            laters.add(new Asked("behind " + times + " undos", x -> undoOften(x, undos)));
        }
        compare(name, one, other, laters, questions(one.make()));
    }

    /** The same without the history, in which the states of an undone or restored run may lie. */
    static void alikeButHistory(String name, Maker one, Maker other) {
        List<Asked> questions = new ArrayList<>(questions(one.make()));
        questions.removeIf(asked -> asked.name.equals("count(14)"));
        compare(name, one, other, laters(), questions);
    }

    private static void compare(
            String name, Maker one, Maker other, List<Asked> laters, List<Asked> questions) {
        for (Asked later : laters) {
            for (int start = 0; start < questions.size(); start += MOST_QUESTIONS) {
                int end = Math.min(questions.size(), start + MOST_QUESTIONS);
                HopHomes x = one.make();
                HopHomes y = other.make();
                String where = name + ", " + later.name;
                Check.due(where, later.call.on(x), later.call.on(y));
                for (Asked asked : questions.subList(start, end)) {
                    Check.due(where + ", " + asked.name, asked.call.on(x), asked.call.on(y));
                }
            }
        }
    }

    private static List<Asked> laters() {
        return List.of(
                new Asked("now", x -> 0),
                new Asked("behind a restore", HopHomes::restore),
                new Asked("behind more text", x -> typeOn(x, ";g0.1")),
                new Asked("behind another text", x -> x.clearText() * 100 + typeOn(x, "r0.0;w1.1")),
                new Asked("behind more accesses", Twins::accessOften));
    }

    private static int undoOften(HopHomes x, int times) {
        int sum = 0;
        for (int i = 0; i < times; i++) {
            sum = sum * 10 + x.undo();
        }
        return sum;
    }

    private static int typeOn(HopHomes x, String text) {
        int sum = 0;
        for (char character : text.toCharArray()) {
            sum = sum * 100 + x.type(character);
        }
        return sum;
    }

    /** Reads and writes by turns, by all policies that move or copy. */
    private static int accessOften(HopHomes x) {
        int sum = 0;
        for (int policy = 3; policy >= 1; policy--) {
            sum = sum * 31 + x.set(0, policy);
            for (int i = 0; i < 12; i++) {
                int page = i % 3;
                sum = sum * 31 + (i % 5 == 4 ? x.write(i % 2, page) : x.read(i % 2, page));
            }
        }
        return sum;
    }

    /** All calls that tell something about the pages, threads and homes that there are. */
    private static List<Asked> questions(HopHomes x) {
        List<Asked> all = new ArrayList<>();
        int pages = x.count(1);
        int threads = x.count(2);
        for (int what = 0; what <= 15; what++) {
            int part = what;
            all.add(new Asked("count(" + part + ")", y -> y.count(part)));
            addHomesAndEvents(all, part);
            for (int page = 0; page <= pages; page++) {
                int number = page;
                all.add(new Asked("page(" + page + ", " + part + ")", y -> y.page(number, part)));
            }
            for (int thread = 0; thread <= threads && part < 5; thread++) {
                int number = thread;
                all.add(new Asked("thread(" + thread + ", " + part + ")", y -> y.thread(number, part)));
            }
        }
        for (int page = 0; page < pages; page++) {
            int number = page;
            all.add(new Asked("bestHome(" + page + ")", y -> y.bestHome(number)));
            all.add(new Asked("wouldPay(0, " + page + ", true)", y -> y.wouldPay(0, number, true)));
            all.add(new Asked("wouldPay(0, " + page + ", false)", y -> y.wouldPay(0, number, false)));
        }
        all.add(new Asked("bestPolicy()", HopHomes::bestPolicy));
        return all;
    }

    private static void addHomesAndEvents(List<Asked> all, int part) {
        for (int home = 0; home < 4 && part < 6; home++) {
            int number = home;
            all.add(new Asked("home(" + home + ", " + part + ")", y -> y.home(number, part)));
        }
        for (int back = 0; back <= 10 && part < 4; back++) {
            int number = back;
            all.add(new Asked("event(" + back + ", " + part + ")", y -> y.event(number, part)));
        }
        if (part < 4) {
            all.add(new Asked("trial(" + part + ")", y -> y.trial(part)));
        }
    }
}
