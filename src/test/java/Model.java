import java.util.ArrayList;
import java.util.List;
import java.util.TreeMap;
import java.util.regex.Matcher;
import java.util.regex.Pattern;

/**
 * The document a second time, written as plainly as can be and in another way than the program:
 * whole histories are kept and looked through, texts are read by patterns, states are copied anew.
 */
final class Model {
    private static final int UNKNOWN = -1;
    private static final int BAD_VALUE = -2;
    private static final int FULL = -3;
    private static final int NOT_POSSIBLE = -4;
    private static final int NONE = -5;
    private static final int[][] HOPS = {{0, 1, 2, 1}, {1, 0, 1, 2}, {2, 1, 0, 1}, {1, 2, 1, 0}};
    private static final String STEP = "(?:[rw][0-9]\\.(?:0|[1-9][0-9]?)|g[0-9]\\.[0-3])";
    private static final Pattern TRACE = Pattern.compile(STEP + "(?:;" + STEP + ")*");

    private static final class Access {
        boolean written;
        boolean moved;
    }

    private static final class OnePage {
        int home;
        TreeMap<Integer, Integer> copies = new TreeMap<>();
        List<Access> accesses = new ArrayList<>();
        int frozen;
        int hops;
        int[] counters = new int[4];

        OnePage twin() {
            OnePage twin = new OnePage();
            twin.home = home;
            twin.copies.putAll(copies);
            for (Access access : accesses) {
                Access other = new Access();
                other.written = access.written;
                other.moved = access.moved;
                twin.accesses.add(other);
            }
            twin.frozen = frozen;
            twin.hops = hops;
            twin.counters = counters.clone();
            return twin;
        }

        boolean writtenWithin(int latest) {
            for (int i = Math.max(0, accesses.size() - latest); i < accesses.size(); i++) {
                if (accesses.get(i).written) {
                    return true;
                }
            }
            return false;
        }

        int movedWithin(int latest) {
            int sum = 0;
            for (int i = Math.max(0, accesses.size() - latest); i < accesses.size(); i++) {
                sum += accesses.get(i).moved ? 1 : 0;
            }
            return sum;
        }

        int movings() {
            return movedWithin(accesses.size());
        }

        int writes() {
            int sum = 0;
            for (Access access : accesses) {
                sum += access.written ? 1 : 0;
            }
            return sum;
        }

        int sinceWritten() {
            for (int back = 0; back < accesses.size(); back++) {
                if (accesses.get(accesses.size() - 1 - back).written) {
                    return back;
                }
            }
            return NONE;
        }
    }

    private static final class State {
        int[] frames = {8, 8, 8, 8};
        List<OnePage> pages = new ArrayList<>();
        List<int[]> threads = new ArrayList<>();
        List<int[]> events = new ArrayList<>();
        int[] settings = {0, 5, 4};
        int time;
        int paid;
        int hops;
        int movings;
        int made;
        int gaveWay;
        int denials;

        State twin() {
            State twin = new State();
            twin.frames = frames.clone();
            for (OnePage page : pages) {
                twin.pages.add(page.twin());
            }
            for (int[] thread : threads) {
                twin.threads.add(thread.clone());
            }
            twin.events.addAll(events);
            twin.settings = settings.clone();
            twin.time = time;
            twin.paid = paid;
            twin.hops = hops;
            twin.movings = movings;
            twin.made = made;
            twin.gaveWay = gaveWay;
            twin.denials = denials;
            return twin;
        }

        int taken(int home) {
            int sum = 0;
            for (OnePage page : pages) {
                sum += (page.home == home ? 1 : 0) + (page.copies.containsKey(home) ? 1 : 0);
            }
            return sum;
        }

        int victim(int home) {
            int victim = NONE;
            for (int i = pages.size() - 1; i >= 0; i--) {
                Integer use = pages.get(i).copies.get(home);
                if (use != null && (victim == NONE || use <= pages.get(victim).copies.get(home))) {
                    victim = i;
                }
            }
            return victim;
        }

        void log(int kind, int page, int home) {
            events.add(new int[] {kind, page, home, time});
        }

        void drop(int page, int home) {
            pages.get(page).copies.remove(home);
            gaveWay++;
            log(2, page, home);
        }

        boolean frameFor(int page, int home) {
            while (taken(home) >= frames[home]) {
                int victim = victim(home);
                if (victim == NONE) {
                    denials++;
                    log(5, page, home);
                    return false;
                }
                drop(victim, home);
            }
            return true;
        }

        int pay(int thread, int page, int base, int byHops) {
            int cost = base + byHops * settings[1];
            threads.get(thread)[1] += cost;
            threads.get(thread)[2] += byHops;
            pages.get(page).hops += byHops;
            paid += cost;
            hops += byHops;
            return cost;
        }

        int source(int at, OnePage page) {
            for (int far = 0; far <= 2; far++) {
                for (int home = 0; home < 4; home++) {
                    boolean there = page.home == home || page.copies.containsKey(home);
                    if (there && HOPS[at][home] == far) {
                        return home;
                    }
                }
            }
            throw new IllegalStateException("a page lies nowhere");
        }

        int access(int thread, int number, boolean writes) {
            time++;
            OnePage page = pages.get(number);
            int at = threads.get(thread)[0];
            Access access = new Access();
            access.written = writes;
            page.accesses.add(access);
            boolean frozen = page.frozen > 0;
            if (frozen) {
                page.frozen--;
            }
            threads.get(thread)[writes ? 4 : 3]++;
            int from = writes ? page.home : source(at, page);
            int cost = pay(thread, number, 1, HOPS[at][from]);
            if (writes) {
                for (int home : new ArrayList<>(page.copies.keySet())) {
                    cost += pay(thread, number, 0, HOPS[page.home][home]);
                    page.copies.remove(home);
                    log(3, number, home);
                }
            } else if (from != page.home) {
                page.copies.put(from, time);
            }
            page.counters[at] = Math.min(999, page.counters[at] + (writes ? 2 : 1));
            if (page.counters[at] < settings[2]) {
                return cost;
            }
            int policy = settings[0];
            if (policy == 2 || policy == 3) {
                boolean due = !writes && HOPS[at][from] > 0 && !page.writtenWithin(8);
                if (due && frameFor(number, at)) {
                    page.copies.put(at, time);
                    made++;
                    log(1, number, at);
                    return cost + pay(thread, number, 10, HOPS[at][from]);
                }
            }
            boolean wanted = page.counters[at] > 2 * page.counters[page.home];
            if ((policy == 1 || policy == 3) && page.home != at && wanted && !frozen) {
                cost += tryMoving(thread, number, at);
            }
            return cost;
        }

        private int tryMoving(int thread, int number, int to) {
            OnePage page = pages.get(number);
            if (page.copies.containsKey(to)) {
                drop(number, to);
            }
            if (!frameFor(number, to)) {
                return 0;
            }
            int from = page.home;
            page.home = to;
            page.accesses.get(page.accesses.size() - 1).moved = true;
            movings++;
            for (int home = 0; home < 4; home++) {
                page.counters[home] = page.counters[home] / 2;
            }
            log(0, number, to);
            if (page.movedWithin(20) >= 3) {
                page.frozen = 30;
                log(4, number, to);
            }
            return pay(thread, number, 10, HOPS[from][to]);
        }

        int sumOfCounters() {
            int sum = 0;
            for (OnePage page : pages) {
                for (int counter : page.counters) {
                    sum += counter;
                }
            }
            return sum;
        }
    }

    private State now = new State();
    private State kept;
    private final List<State> history = new ArrayList<>();
    private String text = "";

    private void act() {
        history.add(now.twin());
        if (history.size() > 4) {
            history.remove(0);
        }
    }

    private static boolean within(int value, int first, int last) {
        return value >= first && value <= last;
    }

    private boolean isPage(int page) {
        return within(page, 0, now.pages.size() - 1);
    }

    private boolean isThread(int thread) {
        return within(thread, 0, now.threads.size() - 1);
    }

    int setFrames(int home, int frames) {
        if (!within(home, 0, 3)) {
            return UNKNOWN;
        }
        if (!within(frames, 1, 20)) {
            return BAD_VALUE;
        }
        int was = now.frames[home];
        if (was == frames) {
            return NONE;
        }
        act();
        now.frames[home] = frames;
        return was;
    }

    int addPage(int home) {
        if (!within(home, 0, 3)) {
            return UNKNOWN;
        }
        if (now.pages.size() == 40) {
            return FULL;
        }
        if (now.taken(home) >= now.frames[home]) {
            return NOT_POSSIBLE;
        }
        act();
        OnePage page = new OnePage();
        page.home = home;
        now.pages.add(page);
        return now.pages.size() - 1;
    }

    int addThread(int home) {
        if (!within(home, 0, 3)) {
            return UNKNOWN;
        }
        if (now.threads.size() == 8) {
            return FULL;
        }
        act();
        now.threads.add(new int[] {home, 0, 0, 0, 0});
        return now.threads.size() - 1;
    }

    int go(int thread, int home) {
        if (!isThread(thread) || !within(home, 0, 3)) {
            return UNKNOWN;
        }
        int was = now.threads.get(thread)[0];
        if (was == home) {
            return NONE;
        }
        act();
        now.threads.get(thread)[0] = home;
        return was;
    }

    int set(int what, int value) {
        int[] first = {0, 0, 1};
        int[] last = {3, 99, 99};
        if (!within(what, 0, 2) || !within(value, first[what], last[what])) {
            return BAD_VALUE;
        }
        int was = now.settings[what];
        if (was == value) {
            return NONE;
        }
        act();
        now.settings[what] = value;
        return was;
    }

    int access(int thread, int page, boolean writes) {
        if (!isThread(thread) || !isPage(page)) {
            return UNKNOWN;
        }
        act();
        return now.access(thread, page, writes);
    }

    int fade() {
        if (now.sumOfCounters() == 0) {
            return NONE;
        }
        act();
        for (OnePage page : now.pages) {
            for (int home = 0; home < 4; home++) {
                page.counters[home] = page.counters[home] / 2;
            }
        }
        return now.sumOfCounters();
    }

    int type(char character) {
        if (text.length() == 60) {
            return FULL;
        }
        text = text + character;
        return text.length();
    }

    int clearText() {
        int was = text.length();
        text = "";
        return was;
    }

    private int fault() {
        for (int end = 1; end <= text.length(); end++) {
            Matcher matcher = TRACE.matcher(text.substring(0, end));
            if (!matcher.matches() && !matcher.hitEnd()) {
                return end - 1;
            }
        }
        return TRACE.matcher(text).matches() ? NONE : text.length();
    }

    private int errorOfText() {
        int fault = fault();
        if (fault != NONE) {
            return -100 - fault;
        }
        for (String step : text.split(";")) {
            int thread = step.charAt(1) - '0';
            int target = Integer.parseInt(step.substring(3));
            if (!isThread(thread) || step.charAt(0) != 'g' && !isPage(target)) {
                return UNKNOWN;
            }
        }
        return 0;
    }

    private int run(State state) {
        int sum = 0;
        for (String step : text.split(";")) {
            int thread = step.charAt(1) - '0';
            int target = Integer.parseInt(step.substring(3));
            if (step.charAt(0) == 'g') {
                state.threads.get(thread)[0] = target;
            } else {
                sum += state.access(thread, target, step.charAt(0) == 'w');
            }
        }
        return sum;
    }

    int perform() {
        int error = errorOfText();
        if (error != 0) {
            return error;
        }
        act();
        return run(now);
    }

    int undo() {
        if (history.isEmpty()) {
            return NONE;
        }
        now = history.remove(history.size() - 1);
        return history.size();
    }

    int keep() {
        kept = now.twin();
        return now.time;
    }

    int restore() {
        if (kept == null) {
            return NONE;
        }
        act();
        now = kept.twin();
        return now.time;
    }

    int home(int home, int what) {
        if (!within(home, 0, 3)) {
            return UNKNOWN;
        }
        if (!within(what, 0, 5)) {
            return BAD_VALUE;
        }
        int pages = 0;
        int copies = 0;
        for (OnePage page : now.pages) {
            pages += page.home == home ? 1 : 0;
            copies += page.copies.containsKey(home) ? 1 : 0;
        }
        int threads = 0;
        for (int[] thread : now.threads) {
            threads += thread[0] == home ? 1 : 0;
        }
        int free = Math.max(0, now.frames[home] - pages - copies);
        return new int[] {now.frames[home], pages, copies, free, threads, now.victim(home)}[what];
    }

    int page(int number, int what) {
        if (!isPage(number)) {
            return UNKNOWN;
        }
        if (!within(what, 0, 7) && !within(what, 10, 13)) {
            return BAD_VALUE;
        }
        OnePage page = now.pages.get(number);
        if (what >= 10) {
            return page.counters[what - 10];
        }
        int bits = 0;
        for (int home : page.copies.keySet()) {
            bits += 1 << home;
        }
        int[] answers = {page.home, bits, page.accesses.size(), page.writes(), page.movings(),
            page.frozen, page.sinceWritten(), page.hops};
        return answers[what];
    }

    int thread(int thread, int what) {
        if (!isThread(thread)) {
            return UNKNOWN;
        }
        return within(what, 0, 4) ? now.threads.get(thread)[what] : BAD_VALUE;
    }

    int hops(int one, int other) {
        return within(one, 0, 3) && within(other, 0, 3) ? HOPS[one][other] : UNKNOWN;
    }

    int wouldPay(int thread, int page, boolean writes) {
        if (!isThread(thread) || !isPage(page)) {
            return UNKNOWN;
        }
        State other = now.twin();
        other.settings[0] = 0;
        return other.access(thread, page, writes);
    }

    int trial(int policy) {
        if (!within(policy, 0, 3)) {
            return BAD_VALUE;
        }
        int error = errorOfText();
        if (error != 0) {
            return error;
        }
        State other = now.twin();
        other.settings[0] = policy;
        return run(other);
    }

    int bestPolicy() {
        int error = errorOfText();
        if (error != 0) {
            return error;
        }
        int best = 3;
        for (int policy = 2; policy >= 0; policy--) {
            best = trial(policy) <= trial(best) ? policy : best;
        }
        return best;
    }

    private static int sumOfHops(OnePage page, int lying) {
        int sum = 0;
        for (int home = 0; home < 4; home++) {
            sum += page.counters[home] * HOPS[lying][home];
        }
        return sum;
    }

    int bestHome(int number) {
        if (!isPage(number)) {
            return UNKNOWN;
        }
        OnePage page = now.pages.get(number);
        int least = Integer.MAX_VALUE;
        for (int home = 0; home < 4; home++) {
            least = Math.min(least, sumOfHops(page, home));
        }
        if (sumOfHops(page, page.home) == least) {
            return page.home;
        }
        int home = 0;
        while (sumOfHops(page, home) != least) {
            home++;
        }
        return home;
    }

    int event(int back, int what) {
        if (back < 0 || !within(what, 0, 3)) {
            return BAD_VALUE;
        }
        int known = Math.min(10, now.events.size());
        return back >= known ? NONE : now.events.get(now.events.size() - 1 - back)[what];
    }

    int count(int what) {
        int copies = 0;
        int frozen = 0;
        for (OnePage page : now.pages) {
            copies += page.copies.size();
            frozen += page.frozen > 0 ? 1 : 0;
        }
        int[] answers = {now.time, now.pages.size(), now.threads.size(), copies, now.paid, now.hops,
            now.movings, now.made, now.gaveWay, now.denials, frozen, now.settings[0],
            now.settings[1], now.settings[2], history.size(), text.length()};
        return within(what, 0, 15) ? answers[what] : BAD_VALUE;
    }
}
