/**
 * Four homes of memory joined by a ring, where what is far is paid by hops. The promises that it
 * keeps stand in DOC.md; the README tells how the parts of this file hang together.
 */
public final class HopHomes {
    /** There is no such home, page or thread. */
    public static final int UNKNOWN = -1;
    /** Another argument is out of range. */
    public static final int BAD_VALUE = -2;
    /** There is no more room. */
    public static final int FULL = -3;
    /** This is not possible. */
    public static final int NOT_POSSIBLE = -4;
    /** There is no such thing; not an error. */
    public static final int NONE = -5;

    private static final int HOMES = 4;
    private static final int FIRST_FRAMES = 8;
    private static final int MOST_FRAMES = 20;
    private static final int MOST_PAGES = 40;
    private static final int MOST_RUNNERS = 8;
    private static final int MOST_STATES = 4;
    private static final int MOST_CHARACTERS = 60;

    private static final int POLICY = 0;
    private static final int TOLL = 1;
    private static final int THRESHOLD = 2;
    private static final int SETTINGS = 3;
    private static final int FIRST_TOLL = 5;
    private static final int MOST_TOLL = 99;
    private static final int FIRST_THRESHOLD = 4;
    private static final int MOST_THRESHOLD = 99;

    private static final int POLICIES = 4;
    private static final int MOVES = 1;
    private static final int COPIES = 2;
    private static final int COPIES_OR_MOVES = 3;

    private static final int PAGE_MOVED = 0;
    private static final int COPY_MADE = 1;
    private static final int COPY_GAVE_WAY = 2;
    private static final int COPY_WRITTEN_AWAY = 3;
    private static final int PAGE_FROZEN = 4;
    private static final int DENIED = 5;

    private static final int NO_ERROR = 0;
    private static final int FAULT_AT_START = -100;

    private final Memory now;
    private final Memory tried;
    private final Memory snapshot;
    private final History history;
    private final Trace trace;
    private boolean hasSnapshot;

    /** Creates four homes without pages and threads. */
    public HopHomes() {
        now = new Memory();
        // All states are made here and used again, so that no call makes an object.
        tried = new Memory();
        snapshot = new Memory();
        history = new History();
        trace = new Trace();
    }

    // ---- homes, pages, threads, settings

    /**
     * Sets the frames of a home; nothing gives way by that. This is an act.
     *
     * @return the previous number; UNKNOWN; BAD_VALUE; NONE if it is so already
     */
    public int setFrames(int home, int frames) {
        if (!isHome(home)) {
            return UNKNOWN;
        }
        if (frames < 1 || frames > MOST_FRAMES) {
            return BAD_VALUE;
        }
        int previous = now.frames[home];
        if (previous == frames) {
            return NONE;
        }
        history.remember(now);
        now.frames[home] = frames;
        return previous;
    }

    /**
     * Adds a page. This is an act.
     *
     * @return its number; UNKNOWN; FULL if there are 40; NOT_POSSIBLE if the home is full
     */
    public int addPage(int home) {
        if (!isHome(home)) {
            return UNKNOWN;
        }
        if (now.pageCount >= MOST_PAGES) {
            return FULL;
        }
        if (now.freeFrames(home) == 0) {
            return NOT_POSSIBLE;
        }
        history.remember(now);
        now.pages[now.pageCount].home = home;
        now.pageCount++;
        return now.pageCount - 1;
    }

    /**
     * Adds a thread. This is an act.
     *
     * @return its number; UNKNOWN; FULL if there are 8
     */
    public int addThread(int home) {
        if (!isHome(home)) {
            return UNKNOWN;
        }
        if (now.runnerCount >= MOST_RUNNERS) {
            return FULL;
        }
        history.remember(now);
        now.runners[now.runnerCount].home = home;
        now.runnerCount++;
        return now.runnerCount - 1;
    }

    /**
     * Lets a thread go to another home. This is an act.
     *
     * @return the home at which it was; UNKNOWN; NONE if it is there already
     */
    public int go(int thread, int home) {
        Runner runner = now.runnerAt(thread);
        if (runner == null || !isHome(home)) {
            return UNKNOWN;
        }
        int previous = runner.home;
        if (previous == home) {
            return NONE;
        }
        history.remember(now);
        runner.home = home;
        return previous;
    }

    /**
     * Sets the policy (0), the toll (1) or the threshold (2). This is an act.
     *
     * @return the previous one; BAD_VALUE; NONE if it is so already
     */
    public int set(int what, int value) {
        if (!isSetting(what, value)) {
            return BAD_VALUE;
        }
        int previous = now.settings[what];
        if (previous == value) {
            return NONE;
        }
        history.remember(now);
        now.settings[what] = value;
        return previous;
    }

    // ---- access

    /**
     * Lets a thread read a page. This is an act.
     *
     * @return what the thread pays by that, moving and copying included; UNKNOWN
     */
    public int read(int thread, int page) {
        Runner reader = now.runnerAt(thread);
        Page target = now.pageAt(page);
        if (reader == null || target == null) {
            return UNKNOWN;
        }
        history.remember(now);
        return now.letRead(reader, target);
    }

    /**
     * Lets a thread write a page. This is an act.
     *
     * @return what the thread pays by that, moving included; UNKNOWN
     */
    public int write(int thread, int page) {
        Runner writer = now.runnerAt(thread);
        Page target = now.pageAt(page);
        if (writer == null || target == null) {
            return UNKNOWN;
        }
        history.remember(now);
        return now.letWrite(writer, target);
    }

    /**
     * Halves all counters of all pages (rounded down). This is an act.
     *
     * @return the sum of all counters then; NONE if all are 0 already
     */
    public int fade() {
        if (now.sumOfCounters() == 0) {
            return NONE;
        }
        history.remember(now);
        for (int i = 0; i < now.pageCount; i++) {
            now.pages[i].halveCounters();
        }
        return now.sumOfCounters();
    }

    // ---- texts

    /**
     * Types a character behind the text.
     *
     * @return the length of the text then; FULL if it has 60 characters
     */
    public int type(char character) {
        if (trace.length >= MOST_CHARACTERS) {
            return FULL;
        }
        trace.text[trace.length] = character;
        trace.length++;
        return trace.length;
    }

    /**
     * Empties the text.
     *
     * @return the length that it had
     */
    public int clearText() {
        int previous = trace.length;
        trace.length = 0;
        return previous;
    }

    /**
     * Does the trace of the text; all steps, or none. This is one act.
     *
     * @return what all threads pay by that; -100 minus the fault of the text; UNKNOWN
     */
    public int perform() {
        int error = errorOfTrace();
        if (error != NO_ERROR) {
            return error;
        }
        history.remember(now);
        return trace.runOn(now);
    }

    // ---- history

    /**
     * Removes and restores the latest state of the history.
     *
     * @return the number of states that are left; NONE if the history is empty
     */
    public int undo() {
        if (history.size == 0) {
            return NONE;
        }
        history.giveBack(now);
        return history.size;
    }

    /**
     * Takes a snapshot of the state, in place of the one that was.
     *
     * @return the time
     */
    public int keep() {
        snapshot.copyFrom(now);
        hasSnapshot = true;
        return now.time;
    }

    /**
     * Restores the state of the snapshot, which stays. This is an act.
     *
     * @return the time then; NONE if there is no snapshot
     */
    public int restore() {
        if (!hasSnapshot) {
            return NONE;
        }
        history.remember(now);
        now.copyFrom(snapshot);
        return now.time;
    }

    // ---- what is told

    /**
     * Tells of a home: 0 frames, 1 pages, 2 copies, 3 free frames, 4 threads, 5 the page of the
     * copy that would give way first.
     *
     * @return the number; UNKNOWN; BAD_VALUE
     */
    public int home(int home, int what) {
        if (!isHome(home)) {
            return UNKNOWN;
        }
        switch (what) {
            case 0:
                return now.frames[home];
            case 1:
                return now.pagesIn(home);
            case 2:
                return now.copiesIn(home);
            case 3:
                return now.freeFrames(home);
            case 4:
                return now.runnersAt(home);
            case 5:
                Page first = now.firstToGiveWay(home);
                return first == null ? NONE : first.number;
            default:
                return BAD_VALUE;
        }
    }

    /**
     * Tells of a page: 0 its home, 1 its copies as bits, 2 accesses, 3 writes, 4 movings, 5 the
     * accesses for which it is still frozen, 6 the accesses since it was written, 7 the hops paid
     * for it, 10 to 13 its counters.
     *
     * @return the number; UNKNOWN; BAD_VALUE
     */
    public int page(int page, int what) {
        Page told = now.pageAt(page);
        if (told == null) {
            return UNKNOWN;
        }
        switch (what) {
            case 0:
                return told.home;
            case 1:
                return told.copyBits;
            case 2:
                return told.accesses;
            case 3:
                return told.writes;
            case 4:
                return told.movings;
            case 5:
                return told.frozenAccesses();
            case 6:
                return told.writes == 0 ? NONE : told.accesses - told.latestWrite;
            case 7:
                return told.hopsPaid;
            case 10:
            case 11:
            case 12:
            case 13:
                return told.counters[what - 10];
            default:
                return BAD_VALUE;
        }
    }

    /**
     * Tells of a thread: 0 its home, 1 what it paid, 2 the hops that it paid, 3 its reads, 4 its
     * writes.
     *
     * @return the number; UNKNOWN; BAD_VALUE
     */
    public int thread(int thread, int what) {
        Runner told = now.runnerAt(thread);
        if (told == null) {
            return UNKNOWN;
        }
        switch (what) {
            case 0:
                return told.home;
            case 1:
                return told.paid;
            case 2:
                return told.hopsPaid;
            case 3:
                return told.reads;
            case 4:
                return told.writes;
            default:
                return BAD_VALUE;
        }
    }

    /**
     * Tells the hops between two homes.
     *
     * @return the hops (0 if they are the same); UNKNOWN
     */
    public int hops(int one, int other) {
        if (!isHome(one) || !isHome(other)) {
            return UNKNOWN;
        }
        return distance(one, other);
    }

    /**
     * Tells what a thread would pay for an access now, without moving and copying.
     *
     * @return the cost; UNKNOWN
     */
    public int wouldPay(int thread, int page, boolean writes) {
        Runner runner = now.runnerAt(thread);
        Page target = now.pageAt(page);
        if (runner == null || target == null) {
            return UNKNOWN;
        }
        int paidHops = writes
                ? distance(runner.home, target.home) + target.hopsToCopies()
                : distance(runner.home, target.nearestTo(runner.home));
        return 1 + paidHops * now.settings[TOLL];
    }

    /**
     * Tells what the trace of the text would cost by a policy.
     *
     * @return what all threads would pay; BAD_VALUE; -100 minus the fault of the text; UNKNOWN
     */
    public int trial(int policy) {
        if (!isSetting(POLICY, policy)) {
            return BAD_VALUE;
        }
        int error = errorOfTrace();
        if (error != NO_ERROR) {
            return error;
        }
        takeForTrial(policy);
        return trace.runOn(tried);
    }

    /**
     * Finds the policy by which the trace of the text would cost least.
     *
     * @return the policy, the lowest of several; -100 minus the fault of the text; UNKNOWN
     */
    public int bestPolicy() {
        int error = errorOfTrace();
        if (error != NO_ERROR) {
            return error;
        }
        int best = 0;
        int leastCost = 0;
        for (int policy = 0; policy < POLICIES; policy++) {
            takeForTrial(policy);
            int cost = trace.runOn(tried);
            if (policy == 0 || cost < leastCost) {
                best = policy;
                leastCost = cost;
            }
        }
        return best;
    }

    /**
     * Finds the home for which the sum of counters times hops is least.
     *
     * @return the home; of several that of the page, otherwise the lowest one; UNKNOWN
     */
    public int bestHome(int page) {
        Page target = now.pageAt(page);
        if (target == null) {
            return UNKNOWN;
        }
        int best = target.home;
        for (int home = 0; home < HOMES; home++) {
            if (target.burdenAt(home) < target.burdenAt(best)) {
                best = home;
            }
        }
        return best;
    }

    /**
     * Looks back at the log: 0 the kind, 1 the page, 2 the home, 3 the time of an event.
     *
     * @return the number; BAD_VALUE; NONE if there is none
     */
    public int event(int back, int what) {
        if (back < 0 || what < 0 || what >= Log.PARTS) {
            return BAD_VALUE;
        }
        if (back >= now.log.size) {
            return NONE;
        }
        return now.log.partOf(back, what);
    }

    /**
     * Tells the totals: 0 the time, 1 pages, 2 threads, 3 copies, 4 all paid, 5 all hops paid,
     * 6 movings, 7 copies made, 8 copies that gave way, 9 denials, 10 frozen pages, 11 the policy,
     * 12 the toll, 13 the threshold, 14 states in the history, 15 the length of the text.
     *
     * @return the number; BAD_VALUE
     */
    public int count(int what) {
        switch (what) {
            case 0:
                return now.time;
            case 1:
                return now.pageCount;
            case 2:
                return now.runnerCount;
            case 3:
                return now.copiesInAllHomes();
            case 4:
                return now.paidByAll();
            case 5:
                return now.hopsPaidByAll();
            case 6:
                return now.movingsOfAll();
            case 7:
                return now.copiesMade;
            case 8:
                return now.copiesGivenWay;
            case 9:
                return now.denials;
            case 10:
                return now.frozenPages();
            case 11:
            case 12:
            case 13:
                return now.settings[what - 11];
            case 14:
                return history.size;
            case 15:
                return trace.length;
            default:
                return BAD_VALUE;
        }
    }

    // ---- helpers of the calls

    private int errorOfTrace() {
        int fault = trace.findFault();
        if (fault != Trace.NO_FAULT) {
            return FAULT_AT_START - fault;
        }
        return trace.isKnownTo(now) ? NO_ERROR : UNKNOWN;
    }

    private void takeForTrial(int policy) {
        tried.copyFrom(now);
        tried.settings[POLICY] = policy;
    }

    private static boolean isHome(int home) {
        return home >= 0 && home < HOMES;
    }

    private static boolean isSetting(int what, int value) {
        switch (what) {
            case POLICY:
                return value >= 0 && value < POLICIES;
            case TOLL:
                return value >= 0 && value <= MOST_TOLL;
            case THRESHOLD:
                return value >= 1 && value <= MOST_THRESHOLD;
            default:
                return false;
        }
    }

    private static int distance(int one, int other) {
        int difference = Math.abs(one - other);
        return Math.min(difference, HOMES - difference);
    }

    /** A page, with its home, its copies and the history of its accesses as far as it matters. */
    private static final class Page {
        private static final int MOST_COUNTED = 999;
        private static final int UNWRITTEN_ACCESSES = 8;
        private static final int RESTLESS_ACCESSES = 20;
        private static final int FROZEN_ACCESSES = 30;

        final int number;
        final int[] counters = new int[HOMES];
        final int[] latestUses = new int[HOMES];
        int home;
        int copyBits;
        int hopsPaid;
        int writes;
        int movings;

        // Accesses to the page are numbered from 1, so that 0 means that there was none.
        int accesses;
        int latestWrite;
        int latestMoving;
        int movingBefore;
        int lastFrozenAccess;

        Page(int number) {
            this.number = number;
        }

        void copyFrom(Page other) {
            System.arraycopy(other.counters, 0, counters, 0, HOMES);
            System.arraycopy(other.latestUses, 0, latestUses, 0, HOMES);
            home = other.home;
            copyBits = other.copyBits;
            hopsPaid = other.hopsPaid;
            writes = other.writes;
            movings = other.movings;
            accesses = other.accesses;
            latestWrite = other.latestWrite;
            latestMoving = other.latestMoving;
            movingBefore = other.movingBefore;
            lastFrozenAccess = other.lastFrozenAccess;
        }

        boolean hasCopyIn(int place) {
            return (copyBits & (1 << place)) != 0;
        }

        void placeCopyIn(int place, int time) {
            copyBits |= 1 << place;
            latestUses[place] = time;
        }

        void removeCopyFrom(int place) {
            copyBits &= ~(1 << place);
        }

        /** The home of the page or of that copy of it which is nearest. */
        int nearestTo(int place) {
            int nearest = home;
            int leastHops = HOMES;
            for (int source = 0; source < HOMES; source++) {
                int hops = distance(place, source);
                if ((source == home || hasCopyIn(source)) && hops < leastHops) {
                    nearest = source;
                    leastHops = hops;
                }
            }
            return nearest;
        }

        int hopsToCopies() {
            int sum = 0;
            for (int place = 0; place < HOMES; place++) {
                if (hasCopyIn(place)) {
                    sum += distance(home, place);
                }
            }
            return sum;
        }

        void growCounter(int place, int by) {
            counters[place] = Math.min(MOST_COUNTED, counters[place] + by);
        }

        void halveCounters() {
            for (int place = 0; place < HOMES; place++) {
                counters[place] /= 2;
            }
        }

        int sumOfCounters() {
            int sum = 0;
            for (int place = 0; place < HOMES; place++) {
                sum += counters[place];
            }
            return sum;
        }

        /** What the counted accesses would have cost in hops if the page lay in a place. */
        int burdenAt(int place) {
            int sum = 0;
            for (int user = 0; user < HOMES; user++) {
                sum += counters[user] * distance(place, user);
            }
            return sum;
        }

        boolean wasWrittenLately() {
            return latestWrite > 0 && accesses - latestWrite < UNWRITTEN_ACCESSES;
        }

        /** The accesses behind the latest one for which the page is still frozen. */
        int frozenAccesses() {
            return Math.max(0, lastFrozenAccess - accesses);
        }

        boolean wantsToMoveTo(int place) {
            boolean frozenNow = accesses <= lastFrozenAccess;
            return place != home && !frozenNow && counters[place] > 2 * counters[home];
        }

        /** Moves the page by its latest access, and tells whether it is frozen by that. */
        boolean moveTo(int place) {
            boolean freezes = movingBefore > 0 && accesses - movingBefore < RESTLESS_ACCESSES;
            home = place;
            movings++;
            movingBefore = latestMoving;
            latestMoving = accesses;
            halveCounters();
            if (freezes) {
                lastFrozenAccess = accesses + FROZEN_ACCESSES;
            }
            return freezes;
        }
    }

    /** A thread of the document; not called so because Java has a Thread of its own. */
    private static final class Runner {
        int home;
        int paid;
        int hopsPaid;
        int reads;
        int writes;

        void copyFrom(Runner other) {
            home = other.home;
            paid = other.paid;
            hopsPaid = other.hopsPaid;
            reads = other.reads;
            writes = other.writes;
        }
    }

    /** The latest events, in a row that begins again at its start when it is full. */
    private static final class Log {
        static final int PARTS = 4;
        private static final int MOST_EVENTS = 10;

        final int[] parts = new int[MOST_EVENTS * PARTS];
        int size;
        int next;

        void copyFrom(Log other) {
            System.arraycopy(other.parts, 0, parts, 0, parts.length);
            size = other.size;
            next = other.next;
        }

        void add(int kind, int page, int home, int time) {
            int start = next * PARTS;
            parts[start] = kind;
            parts[start + 1] = page;
            parts[start + 2] = home;
            parts[start + 3] = time;
            next = (next + 1) % MOST_EVENTS;
            if (size < MOST_EVENTS) {
                size++;
            }
        }

        /** A part of the event that lies so far back, which is less than the size. */
        int partOf(int back, int what) {
            int place = Math.floorMod(next - 1 - back, MOST_EVENTS);
            return parts[place * PARTS + what];
        }
    }

    /** A state: everything but the text, the history and the snapshot. */
    private static final class Memory {
        private static final int ACCESS_PRICE = 1;
        private static final int TRANSFER_PRICE = 10;
        private static final int READ_WEIGHT = 1;
        private static final int WRITE_WEIGHT = 2;

        final int[] frames = new int[HOMES];
        final int[] settings = new int[SETTINGS];
        final Page[] pages = new Page[MOST_PAGES];
        final Runner[] runners = new Runner[MOST_RUNNERS];
        final Log log = new Log();
        int pageCount;
        int runnerCount;
        int time;
        int copiesMade;
        int copiesGivenWay;
        int denials;

        Memory() {
            for (int home = 0; home < HOMES; home++) {
                frames[home] = FIRST_FRAMES;
            }
            for (int i = 0; i < MOST_PAGES; i++) {
                pages[i] = new Page(i);
            }
            for (int i = 0; i < MOST_RUNNERS; i++) {
                runners[i] = new Runner();
            }
            settings[TOLL] = FIRST_TOLL;
            settings[THRESHOLD] = FIRST_THRESHOLD;
        }

        void copyFrom(Memory other) {
            System.arraycopy(other.frames, 0, frames, 0, HOMES);
            System.arraycopy(other.settings, 0, settings, 0, SETTINGS);
            // The unused ones too: a page that was undone must be as new when it is added again.
            for (int i = 0; i < MOST_PAGES; i++) {
                pages[i].copyFrom(other.pages[i]);
            }
            for (int i = 0; i < MOST_RUNNERS; i++) {
                runners[i].copyFrom(other.runners[i]);
            }
            log.copyFrom(other.log);
            pageCount = other.pageCount;
            runnerCount = other.runnerCount;
            time = other.time;
            copiesMade = other.copiesMade;
            copiesGivenWay = other.copiesGivenWay;
            denials = other.denials;
        }

        /** The page of that number, or null if there is none. */
        Page pageAt(int number) {
            return number >= 0 && number < pageCount ? pages[number] : null;
        }

        /** The thread of that number, or null if there is none. */
        Runner runnerAt(int number) {
            return number >= 0 && number < runnerCount ? runners[number] : null;
        }

        // ---- access

        int letRead(Runner reader, Page page) {
            time++;
            page.accesses++;
            reader.reads++;
            int source = page.nearestTo(reader.home);
            int hops = distance(reader.home, source);
            int cost = charge(reader, page, ACCESS_PRICE, hops);
            if (page.hasCopyIn(source)) {
                page.latestUses[source] = time;
            }
            page.growCounter(reader.home, READ_WEIGHT);
            return cost + askPolicy(reader, page, hops);
        }

        int letWrite(Runner writer, Page page) {
            time++;
            page.accesses++;
            page.writes++;
            page.latestWrite = page.accesses;
            writer.writes++;
            int hops = distance(writer.home, page.home) + page.hopsToCopies();
            int cost = charge(writer, page, ACCESS_PRICE, hops);
            for (int place = 0; place < HOMES; place++) {
                if (page.hasCopyIn(place)) {
                    page.removeCopyFrom(place);
                    log.add(COPY_WRITTEN_AWAY, page.number, place, time);
                }
            }
            page.growCounter(writer.home, WRITE_WEIGHT);
            return cost + askPolicy(writer, page, 0);
        }

        private int charge(Runner runner, Page page, int price, int hops) {
            int cost = price + hops * settings[TOLL];
            runner.paid += cost;
            runner.hopsPaid += hops;
            page.hopsPaid += hops;
            return cost;
        }

        /** Moves or copies the page if the policy says so, and tells what that costs. */
        private int askPolicy(Runner runner, Page page, int readHops) {
            int place = runner.home;
            if (page.counters[place] < settings[THRESHOLD]) {
                return 0;
            }
            int policy = settings[POLICY];
            boolean copies = policy == COPIES || policy == COPIES_OR_MOVES;
            if (copies && readHops > 0 && !page.wasWrittenLately() && makeRoom(page, place)) {
                return makeCopy(runner, page, readHops);
            }
            boolean moves = policy == MOVES || policy == COPIES_OR_MOVES;
            if (moves && page.wantsToMoveTo(place)) {
                // Ahead of the others, and gone even if the moving is denied then.
                if (page.hasCopyIn(place)) {
                    giveWay(page, place);
                }
                if (makeRoom(page, place)) {
                    return move(runner, page);
                }
            }
            return 0;
        }

        private int makeCopy(Runner reader, Page page, int hops) {
            page.placeCopyIn(reader.home, time);
            copiesMade++;
            log.add(COPY_MADE, page.number, reader.home, time);
            return charge(reader, page, TRANSFER_PRICE, hops);
        }

        private int move(Runner runner, Page page) {
            int hops = distance(page.home, runner.home);
            boolean freezes = page.moveTo(runner.home);
            log.add(PAGE_MOVED, page.number, page.home, time);
            if (freezes) {
                log.add(PAGE_FROZEN, page.number, page.home, time);
            }
            return charge(runner, page, TRANSFER_PRICE, hops);
        }

        /** Lets copies give way until a home is not full; a page that gets no frame is denied. */
        private boolean makeRoom(Page wanting, int place) {
            // Each turn takes a copy away, and there is at most one of each page.
            for (int turn = 0; turn <= MOST_PAGES; turn++) {
                if (freeFrames(place) > 0) {
                    return true;
                }
                Page first = firstToGiveWay(place);
                if (first == null) {
                    break;
                }
                giveWay(first, place);
            }
            denials++;
            log.add(DENIED, wanting.number, place, time);
            return false;
        }

        private void giveWay(Page page, int place) {
            page.removeCopyFrom(place);
            copiesGivenWay++;
            log.add(COPY_GAVE_WAY, page.number, place, time);
        }

        // ---- what is told

        /** The page whose copy in a home has the earliest latest use, or null if none is there. */
        Page firstToGiveWay(int place) {
            Page first = null;
            for (int i = 0; i < pageCount; i++) {
                Page page = pages[i];
                if (page.hasCopyIn(place)
                        && (first == null || page.latestUses[place] < first.latestUses[place])) {
                    first = page;
                }
            }
            return first;
        }

        /** None where more frames are taken than there are, since frames can become fewer. */
        int freeFrames(int place) {
            int taken = 0;
            for (int i = 0; i < pageCount; i++) {
                if (pages[i].home == place || pages[i].hasCopyIn(place)) {
                    taken++;
                }
            }
            return Math.max(0, frames[place] - taken);
        }

        int pagesIn(int place) {
            int sum = 0;
            for (int i = 0; i < pageCount; i++) {
                if (pages[i].home == place) {
                    sum++;
                }
            }
            return sum;
        }

        int copiesIn(int place) {
            int sum = 0;
            for (int i = 0; i < pageCount; i++) {
                if (pages[i].hasCopyIn(place)) {
                    sum++;
                }
            }
            return sum;
        }

        int copiesInAllHomes() {
            int sum = 0;
            for (int place = 0; place < HOMES; place++) {
                sum += copiesIn(place);
            }
            return sum;
        }

        int runnersAt(int place) {
            int sum = 0;
            for (int i = 0; i < runnerCount; i++) {
                if (runners[i].home == place) {
                    sum++;
                }
            }
            return sum;
        }

        int paidByAll() {
            int sum = 0;
            for (int i = 0; i < runnerCount; i++) {
                sum += runners[i].paid;
            }
            return sum;
        }

        int hopsPaidByAll() {
            int sum = 0;
            for (int i = 0; i < runnerCount; i++) {
                sum += runners[i].hopsPaid;
            }
            return sum;
        }

        int movingsOfAll() {
            int sum = 0;
            for (int i = 0; i < pageCount; i++) {
                sum += pages[i].movings;
            }
            return sum;
        }

        int frozenPages() {
            int sum = 0;
            for (int i = 0; i < pageCount; i++) {
                if (pages[i].frozenAccesses() > 0) {
                    sum++;
                }
            }
            return sum;
        }

        int sumOfCounters() {
            int sum = 0;
            for (int i = 0; i < pageCount; i++) {
                sum += pages[i].sumOfCounters();
            }
            return sum;
        }
    }

    /** The states that undo gives back, the oldest one first. */
    private static final class History {
        private final Memory[] states = new Memory[MOST_STATES];
        int size;

        History() {
            for (int i = 0; i < MOST_STATES; i++) {
                states[i] = new Memory();
            }
        }

        void remember(Memory state) {
            if (size >= MOST_STATES) {
                dropOldest();
            }
            states[size].copyFrom(state);
            size++;
        }

        private void dropOldest() {
            Memory oldest = states[0];
            for (int i = 1; i < MOST_STATES; i++) {
                states[i - 1] = states[i];
            }
            // Its place is written over next, so that no new state needs to be made.
            states[MOST_STATES - 1] = oldest;
            size = MOST_STATES - 1;
        }

        void giveBack(Memory state) {
            if (size > 0) {
                size--;
                state.copyFrom(states[size]);
            }
        }
    }

    /** The text, and the steps that were found in it. */
    private static final class Trace {
        static final int NO_FAULT = -1;

        // What is allowed at a place of the text.
        private static final int NOTHING = -1;
        private static final int KIND = 0;
        private static final int RUNNER = 1;
        private static final int DOT = 2;
        private static final int TARGET = 3;
        private static final int DIGIT_OR_END = 4;
        private static final int END = 5;

        final char[] text = new char[MOST_CHARACTERS];
        int length;
        // A step takes four characters and more, so that these are never used up.
        private final char[] kinds = new char[MOST_CHARACTERS];
        private final int[] runners = new int[MOST_CHARACTERS];
        private final int[] targets = new int[MOST_CHARACTERS];
        private int steps;

        /** Finds the steps of the text, and tells its fault or NO_FAULT. */
        int findFault() {
            steps = 0;
            int allowed = KIND;
            for (int at = 0; at < length; at++) {
                allowed = allowedBehind(allowed, text[at]);
                if (allowed == NOTHING) {
                    return at;
                }
            }
            return allowed == DIGIT_OR_END || allowed == END ? NO_FAULT : length;
        }

        private int allowedBehind(int allowed, char character) {
            switch (allowed) {
                case KIND:
                    return takeKind(character);
                case RUNNER:
                    return takeRunner(character);
                case DOT:
                    return character == '.' ? TARGET : NOTHING;
                case TARGET:
                    return takeTarget(character);
                case DIGIT_OR_END:
                    return takeDigitOrEnd(character);
                case END:
                    return character == ';' ? KIND : NOTHING;
                default:
                    return NOTHING;
            }
        }

        private int takeKind(char character) {
            boolean known = character == 'r' || character == 'w' || character == 'g';
            if (!known || steps >= MOST_CHARACTERS) {
                return NOTHING;
            }
            kinds[steps] = character;
            steps++;
            return RUNNER;
        }

        private int takeRunner(char character) {
            if (!isDigit(character) || steps == 0) {
                return NOTHING;
            }
            runners[steps - 1] = character - '0';
            return DOT;
        }

        private int takeTarget(char character) {
            if (!isDigit(character) || steps == 0) {
                return NOTHING;
            }
            int digit = character - '0';
            boolean goes = kinds[steps - 1] == 'g';
            if (goes && !isHome(digit)) {
                return NOTHING;
            }
            targets[steps - 1] = digit;
            return goes || digit == 0 ? END : DIGIT_OR_END;
        }

        private int takeDigitOrEnd(char character) {
            if (isDigit(character) && steps > 0) {
                targets[steps - 1] = targets[steps - 1] * 10 + (character - '0');
                return END;
            }
            return character == ';' ? KIND : NOTHING;
        }

        private static boolean isDigit(char character) {
            return character >= '0' && character <= '9';
        }

        /** Whether there is each thread and each page of the steps. */
        boolean isKnownTo(Memory memory) {
            for (int i = 0; i < steps; i++) {
                boolean noTarget = kinds[i] != 'g' && memory.pageAt(targets[i]) == null;
                if (memory.runnerAt(runners[i]) == null || noTarget) {
                    return false;
                }
            }
            return true;
        }

        /** Does the steps on a memory that knows them, and tells what all threads pay. */
        int runOn(Memory memory) {
            int cost = 0;
            for (int i = 0; i < steps; i++) {
                Runner runner = memory.runnerAt(runners[i]);
                Page page = memory.pageAt(targets[i]);
                if (runner == null) {
                    continue;
                }
                if (kinds[i] == 'g') {
                    runner.home = targets[i];
                } else if (page != null && kinds[i] == 'r') {
                    cost += memory.letRead(runner, page);
                } else if (page != null) {
                    cost += memory.letWrite(runner, page);
                }
            }
            return cost;
        }
    }
}
