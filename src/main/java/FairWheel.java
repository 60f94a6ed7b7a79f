/**
 * A small kernel's scheduler on a driven clock: a text tells the tasks, calls drive the ticks, and every choice
 * can be looked at, gone back on and asked about. The words in capitals are those of the document.
 */
public final class FairWheel {
    public static final int NONE = -1;

    private static final int NO_SUCH = -2;
    private static final int MAX_BYTES = 1700;
    private static final int FEED_BYTES = 20;
    private static final int MAX_TASKS = 10;
    private static final int MAX_OPS = 90;
    private static final int MAX_CORES = 4;
    private static final int MAX_LOCKS = 6;
    private static final int MAX_BELLS = 4;
    private static final int MAX_TICK = 2000;
    private static final int MAX_RUN = 200;
    private static final int MAX_SHARE = 999;
    private static final int MAX_EVERY = 20;
    private static final int MAX_BUDGET = 99;
    private static final int MAX_NUMBER = 99;
    private static final int MAX_BOXES = 3;
    private static final int MAX_CHOICES = 60;
    private static final int MAX_SIGHTS = 20;
    private static final int SIGHT_TICKS = 100;
    private static final int SOON_TICKS = 2000;
    private static final int ENOUGH_TICKS = 100;
    private static final int ENOUGH_SHARES = 60;
    private static final int FIT_SHARES = 40;
    private static final int MAX_STEP = 1000;
    private static final int MAX_TIME = 100000;

    /** The words that stand for themselves, eight signs each, in the order of their numbers below. */
    private static final String WORDS = "cores   locks   bells   task    fair    batch   idle    deadlineserver  every   budget  share   work    lock    unlock  wait    ring    sleep   ";
    private static final int WORD_LENGTH = 8;
    private static final int WORD_COUNT = 18;
    private static final int NUMBER_LENGTH = 4;

    private static final int CORES = 0;
    private static final int LOCKS = 1;
    private static final int BELLS = 2;
    private static final int TASK = 3;
    private static final int FAIR = 4;
    private static final int BATCH = 5;
    private static final int IDLE = 6;
    private static final int DEADLINE = 7;
    private static final int SERVER = 8;
    private static final int EVERY = 9;
    private static final int BUDGET = 10;
    private static final int SHARE = 11;
    private static final int WORK = 12;
    private static final int LOCK = 13;
    private static final int UNLOCK = 14;
    private static final int WAIT = 15;
    private static final int RING = 16;
    private static final int SLEEP = 17;
    private static final int NAME = 18;
    private static final int NUMBER = 19;
    private static final int SEMICOLON = 20;
    private static final int TEXT_END = 21;
    private static final int NO_TOKEN = 22;

    private static final int FAULT_TOKEN = 1;
    private static final int FAULT_STAND = 2;
    private static final int FAULT_NAME = 3;
    private static final int FAULT_NUMBER = 4;

    private static final int READY = 0;
    private static final int LOCKED = 1;
    private static final int BELLED = 2;
    private static final int SLEEPS = 3;
    private static final int ENDED = 4;

    private static final int ERROR_NO_SUCH = 1;
    private static final int ERROR_NOT_HELD = 2;
    private static final int ERROR_HELD = 3;
    private static final int ERROR_RING = 4;

    private static final int TICK_COST = 1000;
    private static final int RANK_BUDGET = 0;
    private static final int RANK_FAIR = 1;
    private static final int RANK_BATCH = 2;
    private static final int RANK_IDLE = 3;
    private static final int RANK_NEVER = 4;
    /** An OWN PLACE is one number: the rank above these bits, DEADLINE or VIRTUAL, the TASK in the low four. */
    private static final int RANK_SHIFT = 40;
    private static final int TASK_BITS = 4;
    private static final int TASK_MASK = 15;
    private static final long NEVER_CHOSEN = (long) RANK_NEVER << RANK_SHIFT;

    private final Tape tape;
    private final Reader reader;
    private final Wheel live;
    /** What would be is tried here, so that what is stays untouched. */
    private final Wheel trial;
    private final int[] rows;
    private final Box[] boxes;
    private final Choices choices;
    private final Sights sights;
    private final Risk dangers;
    private Plan plan;
    /** A text is read into this one: a FAULT in it leaves the KERNEL as it was. */
    private Plan draft;
    private int time;

    /** An empty KERNEL. */
    public FairWheel() {
        tape = new Tape();
        plan = new Plan();
        draft = new Plan();
        reader = new Reader(tape, draft);
        live = new Wheel(plan);
        trial = new Wheel(plan);
        rows = new int[MAX_TICK];
        boxes = new Box[MAX_BOXES];
        for (int i = 0; i < MAX_BOXES; i++) {
            boxes[i] = new Box(plan);
        }
        choices = new Choices();
        sights = new Sights();
        dangers = new Risk();
        time = 0;
    }

    /** Twenty bytes come behind those on the TAPE: how many there are; NONE if there would be too many. */
    public int feed(int a, int b, int c, int d, int e) {
        if (tape.size + FEED_BYTES > MAX_BYTES) {
            return NONE;
        }
        tape.append(a);
        tape.append(b);
        tape.append(c);
        tape.append(d);
        tape.append(e);
        return tape.size;
    }

    /** The TAPE has its first n bytes: n; NONE if it has not so many. */
    public int end(int n) {
        if (n < 0 || n > tape.size) {
            return NONE;
        }
        tape.size = n;
        return n;
    }

    /** The TAPE is the KERNEL: how many TASKS; NONE: a FAULT, and all stays. */
    public int kernel() {
        if (!reader.read(draft)) {
            return NONE;
        }
        Plan told = draft;
        draft = plan;
        plan = told;
        tape.size = 0;
        live.begin(plan);
        choices.count = 0;
        sights.count = 0;
        for (int i = 0; i < boxes.length; i++) {
            boxes[i].full = false;
        }
        return plan.count;
    }

    /** Of the latest kernel() 0: its FAULT, 1: its place. */
    public int fault(int what) {
        if (what == 0) {
            return reader.found;
        }
        return what == 1 ? reader.foundAt : NONE;
    }

    /** So many TICKS: the TICK then; NONE, doing nothing, for a number that can't be. */
    public int run(int ticks) {
        if (ticks < 0 || ticks > MAX_RUN || live.now + ticks > MAX_TICK) {
            return NONE;
        }
        for (int i = 0; i < ticks; i++) {
            int at = live.now;
            int row = live.tick();
            if (at >= 0 && at < rows.length) {
                rows[at] = row;
            }
        }
        return live.now;
    }

    /** Whom a PROCESSOR chose in a TICK that was; NONE if none, or one can't be. */
    public int chosen(int tick, int processor) {
        if (!wasChosenIn(tick, processor)) {
            return NONE;
        }
        return pick(rows[tick], processor);
    }

    /** What there is to say of a TASK; -2 if there is none such, or for another what. */
    public int task(int task, int what) {
        if (task < 0 || task >= plan.count) {
            return NO_SUCH;
        }
        Task one = live.tasks[task];
        switch (what) {
            case 0: return one.phase;
            case 1: return one.op;
            case 2: return one.left;
            case 3: return one.virtual;
            case 4: return one.rest;
            case 5: return one.weight;
            case 6: return one.budget;
            case 7: return one.deadline;
            case 8: return one.error;
            case 9: return one.target;
            case 10: return one.missed;
            case 11: return one.waited;
            case 12: return one.longest;
            default: return NO_SUCH;
        }
    }

    /** Whose OWN PLACE a TASK's PLACE is; NONE if there is none such, or it ENDED. */
    public int place(int task) {
        if (task < 0 || task >= plan.count || live.tasks[task].phase == ENDED) {
            return NONE;
        }
        live.lend();
        return (int) (live.front[task] & TASK_MASK);
    }

    /** Who holds a lock; NONE if nobody does, or there is none such. */
    public int holder(int lock) {
        return lock < 0 || lock >= plan.locks ? NONE : live.holders[lock];
    }

    /** Who is LOCKED for a lock, as bits; NONE if there is none such. */
    public int waits(int lock) {
        if (lock < 0 || lock >= plan.locks) {
            return NONE;
        }
        int bits = 0;
        for (int i = 0; i < plan.count; i++) {
            if (live.tasks[i].isLockedFor(lock)) {
                bits |= 1 << i;
            }
        }
        return bits;
    }

    /** The i-th TASK of the RING by which a TASK ENDED; NONE if there is none such. */
    public int ring(int task, int i) {
        if (task < 0 || task >= plan.count) {
            return NONE;
        }
        Task one = live.tasks[task];
        return i < 0 || i >= one.ringSize ? NONE : one.ringOf[i];
    }

    /** A share becomes another one: what it was; NONE, doing nothing, if one can't be, or the TASK ENDED. */
    public int share(int task, int share) {
        if (isGone(task) || share < 1 || share > MAX_SHARE) {
            return NONE;
        }
        int before = live.tasks[task].weight;
        live.tasks[task].weight = share;
        return before;
    }

    /** A TASK is ENDED: true; false if it is, or there is none such. */
    public boolean kill(int task) {
        if (isGone(task)) {
            return false;
        }
        live.close(task);
        return true;
    }

    /** A TASK is WOKEN: true; false if it does not SLEEP and is not BELLED, or there is none such. */
    public boolean wake(int task) {
        if (isGone(task)) {
            return false;
        }
        int phase = live.tasks[task].phase;
        if (phase != SLEEPS && phase != BELLED) {
            return false;
        }
        live.finish(task);
        return true;
    }

    /** SOON; NONE if none, it is not READY, or there is none such. */
    public int soon(int task) {
        if (isGone(task) || live.tasks[task].phase != READY) {
            return NONE;
        }
        trial.copyFrom(live);
        for (int i = 1; i <= SOON_TICKS; i++) {
            if (isIn(trial.busyTick(), task)) {
                return i;
            }
        }
        return NONE;
    }

    /** LOAD in lowest terms: upper part (0), lower part (1); NONE for another part. */
    public long load(int part) {
        if (part != 0 && part != 1) {
            return NONE;
        }
        long upper = 0;
        long lower = 1;
        for (int i = 0; i < plan.count; i++) {
            if (plan.isBudgeted(i) && live.tasks[i].phase != ENDED) {
                upper = upper * plan.every[i] + lower * plan.budget[i];
                lower = lower * plan.every[i];
                long common = commonPart(upper, lower);
                if (common > 1) {
                    upper /= common;
                    lower /= common;
                }
            }
        }
        return part == 0 ? upper : lower;
    }

    /** RISK 0: how many locks, i + 1: the i-th of these; -2 for what below 0. */
    public int risk(int what) {
        if (what < 0) {
            return NO_SUCH;
        }
        dangers.find(plan);
        if (what == 0) {
            return dangers.size;
        }
        return what > dangers.size ? NONE : dangers.round[what - 1];
    }

    /** ENOUGH; NONE if none is, one can't be, or the TASK ENDED. */
    public int enough(int task, int n) {
        if (isGone(task) || n < 1 || n > ENOUGH_TICKS) {
            return NONE;
        }
        Task tried = trial.tasks[task];
        for (int share = 1; share <= ENOUGH_SHARES; share++) {
            trial.copyFrom(live);
            tried.weight = share;
            for (int i = 0; i < n && tried.phase != ENDED; i++) {
                trial.tick();
            }
            if (tried.phase == ENDED && tried.error == 0) {
                return share;
            }
        }
        return NONE;
    }

    /** A CHOICE is TOLD: how many there are; NONE, doing nothing, if one can't be, or there are 60. */
    public int tell(int tick, int processor, int task) {
        boolean can = tick >= 0 && tick < MAX_TICK && processor >= 0 && processor < MAX_CORES
                && task >= NONE && task < MAX_TASKS;
        return can && choices.add(tick, processor, task) ? choices.count : NONE;
    }

    /** CHOICES TOLD are none: how many there were. */
    public int hush() {
        int before = choices.count;
        choices.count = 0;
        return before;
    }

    /** The first CHOICE that was not so; NONE if all were. */
    public int check() {
        for (int i = 0; i < choices.count; i++) {
            int tick = choices.ticks[i];
            int processor = choices.processors[i];
            if (!wasChosenIn(tick, processor) || pick(rows[tick], processor) != choices.tasks[i]) {
                return i;
            }
        }
        return NONE;
    }

    /** A SIGHT: its number; NONE, doing nothing, if one can't be, or there are 20. */
    public int sight(int tick, int task, boolean ran) {
        if (tick < 0 || tick >= SIGHT_TICKS || task < 0 || task >= plan.count) {
            return NONE;
        }
        return sights.add(tick, task, ran, time) ? sights.count - 1 : NONE;
    }

    /** A SIGHT is UNTOLD: true; false if it is so already, or there is none such. */
    public boolean untell(int sight) {
        if (sight < 0 || sight >= sights.count || sights.untold[sight] != NONE) {
            return false;
        }
        sights.untold[sight] = time;
        return true;
    }

    /** So much later: the TIME; NONE, doing nothing, for a number that can't be. */
    public int later(int by) {
        if (by < 0 || by > MAX_STEP || time + by > MAX_TIME) {
            return NONE;
        }
        time += by;
        return time;
    }

    /** FIT of a TASK as known at k, as bits; NONE if there is none such. */
    public long fits(int task, int k) {
        if (task < 0 || task >= plan.count) {
            return NONE;
        }
        int ticks = sights.ticksKnown(k);
        long bits = 0;
        for (int share = 1; share <= FIT_SHARES; share++) {
            trial.begin(plan);
            trial.tasks[task].weight = share;
            boolean so = true;
            for (int tick = 0; tick < ticks && so; tick++) {
                so = sights.agree(trial.tick(), tick, k);
            }
            if (so) {
                bits |= 1L << share;
            }
        }
        return bits;
    }

    /** TASKS, locks, bells, the TICK and ROWS are kept in a BOX: the TICK; NONE if there is none such. */
    public int image(int box) {
        if (box < 0 || box >= boxes.length) {
            return NONE;
        }
        boxes[box].wheel.copyFrom(live);
        copyRows(rows, boxes[box].rows);
        boxes[box].full = true;
        return live.now;
    }

    /** All is as it was kept: the TICK; NONE, doing nothing, if nothing was. */
    public int back(int box) {
        if (box < 0 || box >= boxes.length || !boxes[box].full) {
            return NONE;
        }
        live.copyFrom(boxes[box].wheel);
        copyRows(boxes[box].rows, rows);
        return live.now;
    }

    /** How much there is of what; NONE for another what. */
    public int about(int what) {
        switch (what) {
            case 0: return plan.count;
            case 1: return plan.cores;
            case 2: return plan.locks;
            case 3: return plan.bells;
            case 4: return live.now;
            case 5: return countAlive();
            case 6: return choices.count;
            case 7: return sights.count;
            case 8: return time;
            case 9: return tape.size;
            case 10: return plan.ops;
            default: return NONE;
        }
    }

    /** Only TICKS that were have rows worth copying. */
    private void copyRows(int[] from, int[] to) {
        System.arraycopy(from, 0, to, 0, Math.min(live.now, Math.min(from.length, to.length)));
    }

    private boolean isGone(int task) {
        return task < 0 || task >= plan.count || live.tasks[task].phase == ENDED;
    }

    private boolean wasChosenIn(int tick, int processor) {
        return tick >= 0 && tick < live.now && tick < rows.length && processor >= 0 && processor < plan.cores;
    }

    private int countAlive() {
        int alive = 0;
        for (int i = 0; i < plan.count; i++) {
            if (live.tasks[i].phase != ENDED) {
                alive++;
            }
        }
        return alive;
    }

    /** Whom a PROCESSOR chose by a row: four bits each, the TASK and one, 0 for none. */
    private static int pick(int row, int processor) {
        return ((row >> (TASK_BITS * processor)) & TASK_MASK) - 1;
    }

    private static boolean isIn(int row, int task) {
        for (int p = 0; p < MAX_CORES; p++) {
            if (pick(row, p) == task) {
                return true;
            }
        }
        return false;
    }

    /** The greatest number that divides both. Each second step halves the greater one, so 200 are more than enough. */
    private static long commonPart(long a, long b) {
        long high = a;
        long low = b;
        for (int i = 0; i < 200 && low != 0; i++) {
            long left = high % low;
            high = low;
            low = left;
        }
        return high;
    }

    /** The bytes that were fed. */
    private static final class Tape {
        final byte[] bytes = new byte[MAX_BYTES];
        int size = 0;

        void append(int four) {
            for (int shift = 24; shift >= 0 && size < bytes.length; shift -= 8) {
                bytes[size] = (byte) (four >> shift);
                size++;
            }
        }

        /** The byte at a place, 0 beyond the end. */
        int at(int i) {
            return i < 0 || i >= size || i >= bytes.length ? 0 : bytes[i] & 255;
        }
    }

    /** What a text told: it never changes while the KERNEL runs. */
    private static final class Plan {
        int cores = 1;
        int locks = 0;
        int bells = 0;
        int count = 0;
        int ops = 0;
        final long[] names = new long[MAX_TASKS];
        final int[] kinds = new int[MAX_TASKS];
        final int[] shares = new int[MAX_TASKS];
        final int[] every = new int[MAX_TASKS];
        final int[] budget = new int[MAX_TASKS];
        final int[] firstOp = new int[MAX_TASKS];
        final int[] opCount = new int[MAX_TASKS];
        final int[] codes = new int[MAX_OPS];
        final int[] numbers = new int[MAX_OPS];

        void clear() {
            cores = 1;
            locks = 0;
            bells = 0;
            count = 0;
            ops = 0;
        }

        void keepCount(int sort, int n) {
            switch (sort) {
                case CORES: cores = n; break;
                case LOCKS: locks = n; break;
                default: bells = n;
            }
        }

        boolean isBudgeted(int task) {
            return kinds[task] == DEADLINE || kinds[task] == SERVER;
        }

        boolean hasName(long name) {
            for (int i = 0; i < count; i++) {
                if (names[i] == name) {
                    return true;
                }
            }
            return false;
        }

        /** Where an OP of a TASK stands among all OPS; NONE if it has not so many. */
        int opAt(int task, int op) {
            int at = firstOp[task] + op;
            return op < 0 || op >= opCount[task] || at < 0 || at >= codes.length ? NONE : at;
        }

        /** How much there is to do of the OP at a place that opAt() found: 0 but for work. */
        int workAt(int at) {
            return at == NONE || codes[at] != WORK ? 0 : numbers[at];
        }
    }

    /** Parts a text into TOKENS. */
    private static final class Scanner {
        private final Tape tape;
        private int at;
        /** Of the TOKEN at hand: its place, its sort, its letters as one number, its value. */
        int start;
        int code;
        long letters;
        int value;

        Scanner(Tape text) {
            tape = text;
            at = 0;
        }

        void begin() {
            at = 0;
        }

        void next() {
            while (at < tape.size && isBlank(tape.at(at))) {
                at++;
            }
            start = at;
            int sign = tape.at(at);
            if (at >= tape.size) {
                code = TEXT_END;
            } else if (isLetter(sign)) {
                passLetters();
                code = at - start > WORD_LENGTH ? NO_TOKEN : codeOfWord(at - start);
            } else if (isDigit(sign)) {
                scanNumber();
            } else {
                code = sign == ';' ? SEMICOLON : NO_TOKEN;
                at++;
            }
        }

        private void passLetters() {
            letters = 0;
            while (at < tape.size && isLetter(tape.at(at))) {
                letters = (letters << 8) | tape.at(at);
                at++;
            }
        }

        private void scanNumber() {
            value = 0;
            while (at < tape.size && isDigit(tape.at(at))) {
                value = value * 10 + tape.at(at) - '0';
                at++;
            }
            boolean good = at - start <= NUMBER_LENGTH && !isLetter(tape.at(at));
            code = good ? NUMBER : NO_TOKEN;
        }

        private int codeOfWord(int length) {
            for (int word = 0; word < WORD_COUNT; word++) {
                boolean same = true;
                for (int i = 0; i < WORD_LENGTH && same; i++) {
                    int sign = i < length ? tape.at(start + i) : ' ';
                    same = WORDS.charAt(word * WORD_LENGTH + i) == sign;
                }
                if (same) {
                    return word;
                }
            }
            return NAME;
        }

        private static boolean isBlank(int sign) {
            return sign == ' ' || sign == '\n';
        }

        private static boolean isLetter(int sign) {
            return sign >= 'a' && sign <= 'z';
        }

        private static boolean isDigit(int sign) {
            return sign >= '0' && sign <= '9';
        }
    }

    /** Reads a text line by line into a plan, till its first FAULT. */
    private static final class Reader {
        private final Scanner scanner;
        private Plan into;
        /** Which of cores, locks and bells were told, as bits. */
        private int told;
        private int number;
        int found = 0;
        int foundAt = NONE;

        Reader(Tape tape, Plan first) {
            scanner = new Scanner(tape);
            into = first;
        }

        boolean read(Plan plan) {
            into = plan;
            into.clear();
            told = 0;
            found = 0;
            foundAt = NONE;
            scanner.begin();
            scanner.next();
            for (int i = 0; i <= MAX_BYTES && scanner.code != TEXT_END; i++) {
                boolean good = scanner.code == TASK ? readTask() : readCount();
                if (!good) {
                    return false;
                }
            }
            return true;
        }

        private boolean readCount() {
            int sort = scanner.code;
            if (sort != CORES && sort != LOCKS && sort != BELLS) {
                return refuse();
            }
            if ((told & (1 << sort)) != 0) {
                return fail(FAULT_STAND);
            }
            told |= 1 << sort;
            scanner.next();
            if (!readNumber(sort == CORES ? 1 : 0, mostOf(sort))) {
                return false;
            }
            into.keepCount(sort, number);
            return pass(SEMICOLON);
        }

        private static int mostOf(int sort) {
            switch (sort) {
                case CORES: return MAX_CORES;
                case LOCKS: return MAX_LOCKS;
                default: return MAX_BELLS;
            }
        }

        private boolean readTask() {
            int task = into.count;
            if (task >= MAX_TASKS) {
                return fail(FAULT_STAND);
            }
            scanner.next();
            if (scanner.code != NAME) {
                return refuse();
            }
            if (into.hasName(scanner.letters)) {
                return fail(FAULT_NAME);
            }
            into.names[task] = scanner.letters;
            into.firstOp[task] = into.ops;
            into.every[task] = 1;
            into.budget[task] = 0;
            scanner.next();
            if (!readKind(task) || !pass(SHARE) || !readNumber(1, MAX_SHARE)) {
                return false;
            }
            into.shares[task] = number;
            if (!readOps()) {
                return false;
            }
            into.opCount[task] = into.ops - into.firstOp[task];
            into.count++;
            return pass(SEMICOLON);
        }

        private boolean readKind(int task) {
            int kind = scanner.code;
            if (kind < FAIR || kind > SERVER) {
                return refuse();
            }
            into.kinds[task] = kind;
            scanner.next();
            if (kind != DEADLINE && kind != SERVER) {
                return true;
            }
            if (!pass(EVERY) || !readNumber(1, MAX_EVERY)) {
                return false;
            }
            into.every[task] = number;
            if (!pass(BUDGET) || !readNumber(1, MAX_BUDGET)) {
                return false;
            }
            into.budget[task] = number;
            return true;
        }

        /** All OPS till what is none. */
        private boolean readOps() {
            for (int i = 0; i <= MAX_OPS; i++) {
                int op = scanner.code;
                if (op < WORK || op > SLEEP) {
                    return true;
                }
                if (into.ops >= MAX_OPS) {
                    return fail(FAULT_STAND);
                }
                scanner.next();
                if (!readNumber(op == WORK || op == SLEEP ? 1 : 0, MAX_NUMBER)) {
                    return false;
                }
                into.codes[into.ops] = op;
                into.numbers[into.ops] = number;
                into.ops++;
            }
            return true;
        }

        private boolean readNumber(int least, int most) {
            if (scanner.code != NUMBER) {
                return refuse();
            }
            if (scanner.value < least || scanner.value > most) {
                return fail(FAULT_NUMBER);
            }
            number = scanner.value;
            scanner.next();
            return true;
        }

        private boolean pass(int code) {
            if (scanner.code != code) {
                return refuse();
            }
            scanner.next();
            return true;
        }

        private boolean refuse() {
            return fail(scanner.code == NO_TOKEN ? FAULT_TOKEN : FAULT_STAND);
        }

        private boolean fail(int which) {
            found = which;
            foundAt = scanner.start;
            return false;
        }
    }

    /** A TASK as it is now. */
    private static final class Task {
        int phase;
        int op;
        int left;
        int virtual;
        int rest;
        int weight;
        int budget;
        int deadline;
        int error;
        int target;
        int missed;
        int waited;
        int longest;
        /** How long it has WAITED on end till now. */
        int streak;
        /** Its OWN PLACE. */
        long own;
        int ringSize;
        final int[] ringOf = new int[MAX_TASKS];

        void begin(int share, int ops, int work) {
            phase = ops > 0 ? READY : ENDED;
            op = 0;
            left = work;
            virtual = 0;
            rest = 0;
            weight = share;
            budget = 0;
            deadline = 0;
            error = 0;
            target = NONE;
            missed = 0;
            waited = 0;
            longest = 0;
            streak = 0;
            ringSize = 0;
        }

        void copyFrom(Task other) {
            phase = other.phase;
            op = other.op;
            left = other.left;
            virtual = other.virtual;
            rest = other.rest;
            weight = other.weight;
            budget = other.budget;
            deadline = other.deadline;
            error = other.error;
            target = other.target;
            missed = other.missed;
            waited = other.waited;
            longest = other.longest;
            streak = other.streak;
            own = other.own;
            ringSize = other.ringSize;
            System.arraycopy(other.ringOf, 0, ringOf, 0, ringOf.length);
        }

        boolean isLockedFor(int lock) {
            return phase == LOCKED && target == lock;
        }

        void stop(int why, int what) {
            phase = why;
            target = what;
        }

        void countWait(boolean isChosen) {
            if (isChosen) {
                streak = 0;
                return;
            }
            waited++;
            streak++;
            longest = Math.max(longest, streak);
        }
    }

    /** TASKS, locks and the TICK of a plan that runs. */
    private static final class Wheel {
        private Plan plan;
        int now;
        final Task[] tasks = new Task[MAX_TASKS];
        final int[] holders = new int[MAX_LOCKS];
        /** PLACES, as lend() found them. */
        final long[] front = new long[MAX_TASKS];
        /** Who ENDED and may still hold locks, the latest last. */
        private final int[] closing = new int[MAX_TASKS];

        Wheel(Plan first) {
            for (int i = 0; i < MAX_TASKS; i++) {
                tasks[i] = new Task();
            }
            begin(first);
        }

        void begin(Plan told) {
            plan = told;
            now = 0;
            for (int i = 0; i < plan.count; i++) {
                tasks[i].begin(plan.shares[i], plan.opCount[i], plan.workAt(plan.opAt(i, 0)));
                settleOwn(i);
            }
            for (int i = 0; i < MAX_LOCKS; i++) {
                holders[i] = NONE;
            }
        }

        void copyFrom(Wheel other) {
            plan = other.plan;
            now = other.now;
            for (int i = 0; i < plan.count; i++) {
                tasks[i].copyFrom(other.tasks[i]);
            }
            System.arraycopy(other.holders, 0, holders, 0, holders.length);
        }

        /** One TICK: the row of whom PROCESSORS chose. */
        int tick() {
            refill();
            awake();
            int row = choose();
            for (int p = 0; p < plan.cores; p++) {
                int who = pick(row, p);
                if (who != NONE) {
                    doOp(who);
                }
            }
            pay(row);
            now++;
            return row;
        }

        /** One TICK in which all that are READY work, and nobody else becomes READY. */
        int busyTick() {
            refill();
            int row = choose();
            pay(row);
            now++;
            return row;
        }

        private void refill() {
            for (int i = 0; i < plan.count; i++) {
                Task one = tasks[i];
                int every = plan.every[i];
                if (plan.isBudgeted(i) && one.phase != ENDED && every > 0 && now % every == 0) {
                    if (one.phase == READY && one.budget > 0 && now != 0) {
                        one.missed++;
                    }
                    one.budget = plan.budget[i];
                    one.deadline = now + every;
                    settleOwn(i);
                }
            }
        }

        private void awake() {
            for (int i = 0; i < plan.count; i++) {
                if (tasks[i].phase == SLEEPS && tasks[i].target == now) {
                    finish(i);
                }
            }
        }

        private int choose() {
            lend();
            int row = 0;
            int taken = 0;
            for (int p = 0; p < plan.cores; p++) {
                int best = foremostReady(taken);
                if (best != NONE) {
                    taken |= 1 << best;
                    row |= (best + 1) << (TASK_BITS * p);
                }
            }
            for (int i = 0; i < plan.count; i++) {
                if (tasks[i].phase == READY) {
                    tasks[i].countWait((taken & (1 << i)) != 0);
                }
            }
            return row;
        }

        private int foremostReady(int taken) {
            int best = NONE;
            long bestFront = NEVER_CHOSEN;
            for (int i = 0; i < plan.count; i++) {
                if (tasks[i].phase == READY && (taken & (1 << i)) == 0 && front[i] < bestFront) {
                    best = i;
                    bestFront = front[i];
                }
            }
            return best;
        }

        private void pay(int row) {
            for (int p = 0; p < plan.cores; p++) {
                int who = pick(row, p);
                if (who != NONE) {
                    payOne(who);
                    settleOwn(who);
                }
            }
        }

        private void payOne(int who) {
            Task one = tasks[who];
            if (one.budget > 0) {
                one.budget--;
            } else if (plan.kinds[who] != DEADLINE && one.weight > 0) {
                int due = TICK_COST + one.rest;
                one.virtual += due / one.weight;
                one.rest = due % one.weight;
            }
        }

        /** Keeps OWN PLACE up with BUDGET, DEADLINE and VIRTUAL. */
        private void settleOwn(int who) {
            Task one = tasks[who];
            long rank = rankWithoutBudget(plan.kinds[who]);
            long by = rank == RANK_NEVER ? 0 : one.virtual;
            if (one.budget > 0) {
                rank = RANK_BUDGET;
                by = one.deadline;
            }
            one.own = (rank << RANK_SHIFT) | (by << TASK_BITS) | who;
        }

        private static int rankWithoutBudget(int kind) {
            switch (kind) {
                case BATCH: return RANK_BATCH;
                case IDLE: return RANK_IDLE;
                case DEADLINE: return RANK_NEVER;
                default: return RANK_FAIR;
            }
        }

        /** Finds all PLACES: who is LOCKED lends his OWN PLACE to each holder up the chain. */
        void lend() {
            for (int i = 0; i < plan.count; i++) {
                front[i] = tasks[i].own;
            }
            for (int i = 0; i < plan.count; i++) {
                int above = holderAbove(i);
                for (int step = 0; step < MAX_TASKS && above != NONE; step++) {
                    front[above] = Math.min(front[above], tasks[i].own);
                    above = holderAbove(above);
                }
            }
        }

        /** Who holds the lock for which a TASK is LOCKED; NONE if it is not. */
        private int holderAbove(int who) {
            int lock = tasks[who].target;
            return tasks[who].phase != LOCKED || lock < 0 || lock >= holders.length ? NONE : holders[lock];
        }

        private void doOp(int who) {
            Task one = tasks[who];
            int at = plan.opAt(who, one.op);
            if (at == NONE) {
                return;
            }
            int n = plan.numbers[at];
            switch (plan.codes[at]) {
                case WORK:
                    one.left--;
                    if (one.left <= 0) {
                        finish(who);
                    }
                    break;
                case LOCK:
                    doLock(who, n);
                    break;
                case UNLOCK:
                    doUnlock(who, n);
                    break;
                case WAIT:
                    if (n < plan.bells) {
                        one.stop(BELLED, n);
                    } else {
                        fail(who, ERROR_NO_SUCH);
                    }
                    break;
                case RING:
                    doRing(who, n);
                    break;
                default:
                    one.stop(SLEEPS, now + n + 1);
            }
        }

        private void doLock(int who, int lock) {
            if (lock < 0 || lock >= plan.locks || lock >= holders.length) {
                fail(who, ERROR_NO_SUCH);
            } else if (holders[lock] == NONE) {
                holders[lock] = who;
                finish(who);
            } else if (holders[lock] == who) {
                fail(who, ERROR_HELD);
            } else if (closesRing(who, holders[lock])) {
                fail(who, ERROR_RING);
            } else {
                tasks[who].stop(LOCKED, lock);
            }
        }

        /** Goes from the holder on to who holds what that one waits for, and notes the RING if it comes round. */
        private boolean closesRing(int who, int first) {
            Task one = tasks[who];
            one.ringOf[0] = who;
            int size = 1;
            int next = first;
            while (size < MAX_TASKS && next != NONE && next != who) {
                one.ringOf[size] = next;
                size++;
                next = holderAbove(next);
            }
            one.ringSize = next == who ? size : 0;
            return next == who;
        }

        private void doUnlock(int who, int lock) {
            if (lock < 0 || lock >= plan.locks || lock >= holders.length) {
                fail(who, ERROR_NO_SUCH);
            } else if (holders[lock] != who) {
                fail(who, ERROR_NOT_HELD);
            } else {
                lend();
                int heir = letGo(lock);
                if (heir != NONE) {
                    finish(heir);
                }
                finish(who);
            }
        }

        private void doRing(int who, int bell) {
            if (bell >= plan.bells) {
                fail(who, ERROR_NO_SUCH);
                return;
            }
            for (int i = 0; i < plan.count; i++) {
                if (tasks[i].phase == BELLED && tasks[i].target == bell) {
                    finish(i);
                }
            }
            finish(who);
        }

        private void fail(int who, int error) {
            tasks[who].error = error;
            close(who);
        }

        /** The OP at hand is done: the TASK is READY for its next, or ENDS. */
        void finish(int who) {
            if (stepOn(who)) {
                close(who);
            }
        }

        /** Takes the next OP at hand: whether there is none. */
        private boolean stepOn(int who) {
            Task one = tasks[who];
            one.stop(READY, NONE);
            one.op++;
            one.left = plan.workAt(plan.opAt(who, one.op));
            return one.op >= plan.opCount[who];
        }

        /**
         * A TASK ENDS and lets go its locks. Who gets one may END by that at once, ahead of the next lock: such
         * ones are laid on top of each other, and each goes on where the one above it has nothing left. Each turn
         * wakes a LOCKED TASK, frees a lock or takes one off the top: far fewer than 1000.
         */
        void close(int who) {
            tasks[who].stop(ENDED, NONE);
            closing[0] = who;
            int depth = 1;
            for (int i = 0; i < 1000 && depth > 0; i++) {
                int lock = leastHeldBy(closing[depth - 1]);
                if (lock == NONE) {
                    depth--;
                    continue;
                }
                lend();
                int heir = letGo(lock);
                if (heir != NONE && stepOn(heir) && depth < closing.length) {
                    tasks[heir].stop(ENDED, NONE);
                    closing[depth] = heir;
                    depth++;
                }
            }
        }

        private int leastHeldBy(int who) {
            for (int i = 0; i < plan.locks && i < holders.length; i++) {
                if (holders[i] == who) {
                    return i;
                }
            }
            return NONE;
        }

        /** The foremost of those LOCKED for a lock, by PLACES as lend() found them, holds it now: who, or NONE. */
        private int letGo(int lock) {
            int heir = NONE;
            for (int i = 0; i < plan.count; i++) {
                if (tasks[i].isLockedFor(lock) && (heir == NONE || front[i] < front[heir])) {
                    heir = i;
                }
            }
            holders[lock] = heir;
            return heir;
        }
    }

    /** What an image keeps. */
    private static final class Box {
        final Wheel wheel;
        final int[] rows = new int[MAX_TICK];
        boolean full = false;

        Box(Plan plan) {
            wheel = new Wheel(plan);
        }
    }

    /** CHOICES TOLD. */
    private static final class Choices {
        int count = 0;
        final int[] ticks = new int[MAX_CHOICES];
        final int[] processors = new int[MAX_CHOICES];
        final int[] tasks = new int[MAX_CHOICES];

        boolean add(int tick, int processor, int task) {
            if (count >= MAX_CHOICES) {
                return false;
            }
            ticks[count] = tick;
            processors[count] = processor;
            tasks[count] = task;
            count++;
            return true;
        }
    }

    /** SIGHTS, with the TIMES at which they were TOLD and UNTOLD. */
    private static final class Sights {
        int count = 0;
        private final int[] ticks = new int[MAX_SIGHTS];
        private final int[] tasks = new int[MAX_SIGHTS];
        private final boolean[] ran = new boolean[MAX_SIGHTS];
        private final int[] since = new int[MAX_SIGHTS];
        final int[] untold = new int[MAX_SIGHTS];

        boolean add(int tick, int task, boolean didRun, int time) {
            if (count >= MAX_SIGHTS) {
                return false;
            }
            ticks[count] = tick;
            tasks[count] = task;
            ran[count] = didRun;
            since[count] = time;
            untold[count] = NONE;
            count++;
            return true;
        }

        private boolean counts(int i, int k) {
            return since[i] <= k && (untold[i] == NONE || untold[i] > k);
        }

        /** How many TICKS are to be gone through till all that count at k were seen. */
        int ticksKnown(int k) {
            int most = 0;
            for (int i = 0; i < count; i++) {
                if (counts(i, k)) {
                    most = Math.max(most, ticks[i] + 1);
                }
            }
            return most;
        }

        /** Whether a TICK's row is as all say of it that count at k. */
        boolean agree(int row, int tick, int k) {
            for (int i = 0; i < count; i++) {
                if (ticks[i] == tick && counts(i, k) && isIn(row, tasks[i]) != ran[i]) {
                    return false;
                }
            }
            return true;
        }
    }

    /** The locks round which TASKS may come to wait for each other. */
    private static final class Risk {
        /** Of each lock: those BEHIND it, as bits; how many steps there are from it to the lock in question. */
        private final int[] behind = new int[MAX_LOCKS];
        private final int[] steps = new int[MAX_LOCKS];
        int size = 0;
        final int[] round = new int[MAX_LOCKS];

        void find(Plan plan) {
            size = 0;
            for (int i = 0; i < MAX_LOCKS; i++) {
                behind[i] = 0;
            }
            for (int i = 0; i < plan.count; i++) {
                goThrough(plan, i);
            }
            for (int lock = 0; lock < MAX_LOCKS && size == 0; lock++) {
                measure(lock);
                goRound(lock);
            }
        }

        private void goThrough(Plan plan, int task) {
            int had = 0;
            for (int op = 0; op < plan.opCount[task]; op++) {
                int at = plan.opAt(task, op);
                int code = at == NONE ? NONE : plan.codes[at];
                int lock = at == NONE ? 0 : plan.numbers[at];
                if (code == LOCK) {
                    if (lock >= plan.locks || lock >= MAX_LOCKS || (had & (1 << lock)) != 0) {
                        return;
                    }
                    noteBehind(lock, had);
                    had |= 1 << lock;
                } else if (code == UNLOCK && lock < MAX_LOCKS) {
                    had &= ~(1 << lock);
                }
            }
        }

        private void noteBehind(int lock, int had) {
            for (int i = 0; i < MAX_LOCKS; i++) {
                if ((had & (1 << i)) != 0) {
                    behind[i] |= 1 << lock;
                }
            }
        }

        /** The fewest steps from each lock, by one BEHIND it, to the goal; beyond MAX_LOCKS if there is no way. */
        private void measure(int goal) {
            for (int i = 0; i < MAX_LOCKS; i++) {
                steps[i] = i == goal ? 0 : MAX_LOCKS + 1;
            }
            for (int turn = 0; turn < MAX_LOCKS; turn++) {
                for (int i = 0; i < MAX_LOCKS; i++) {
                    steps[i] = Math.min(steps[i], fewestBehind(i) + 1);
                }
            }
        }

        private int fewestBehind(int lock) {
            int fewest = MAX_LOCKS + 1;
            for (int i = 0; i < MAX_LOCKS; i++) {
                if ((behind[lock] & (1 << i)) != 0) {
                    fewest = Math.min(fewest, steps[i]);
                }
            }
            return fewest;
        }

        /** Notes the first by numbers of the fewest locks round from a lock, if it is BEHIND itself. */
        private void goRound(int lock) {
            int left = fewestBehind(lock);
            int at = lock;
            if (left >= MAX_LOCKS) {
                return;
            }
            for (int i = 0; i < MAX_LOCKS && left >= 0 && at != NONE; i++) {
                round[i] = at;
                size = i + 1;
                at = firstBehind(at, left);
                left--;
            }
        }

        private int firstBehind(int lock, int left) {
            for (int i = 0; i < MAX_LOCKS; i++) {
                if ((behind[lock] & (1 << i)) != 0 && steps[i] == left) {
                    return i;
                }
            }
            return NONE;
        }
    }
}
