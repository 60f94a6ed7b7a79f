import java.util.ArrayList;
import java.util.Comparator;
import java.util.List;
import java.util.Random;

/** The document's words once more, as plainly and slowly as can be, for the class to be held against. */
final class Model {
    static final int READY = 0;
    static final int LOCKED = 1;
    static final int BELLED = 2;
    static final int SLEEPS = 3;
    static final int ENDED = 4;
    static final String[] KINDS = {"fair", "batch", "idle", "deadline", "server"};

    static final class Op {
        final String word;
        final int n;

        Op(String word, int n) {
            this.word = word;
            this.n = n;
        }
    }

    static final class Unit {
        final int number;
        final String kind;
        int every;
        int refill;
        int share;
        List<Op> ops = new ArrayList<>();
        int state;
        int at;
        int left;
        int virtual;
        int rest;
        int budget;
        int deadline;
        int error;
        int waitsFor = -1;
        int missed;
        int waited;
        int onEnd;
        int longest;
        List<Integer> ring = new ArrayList<>();

        Unit(int number, String kind) {
            this.number = number;
            this.kind = kind;
        }

        boolean budgeted() {
            return kind.equals("deadline") || kind.equals("server");
        }

        Op op() {
            return at < ops.size() ? ops.get(at) : null;
        }

        Unit copy() {
            Unit u = new Unit(number, kind);
            u.every = every;
            u.refill = refill;
            u.share = share;
            u.ops = ops;
            u.state = state;
            u.at = at;
            u.left = left;
            u.virtual = virtual;
            u.rest = rest;
            u.budget = budget;
            u.deadline = deadline;
            u.error = error;
            u.waitsFor = waitsFor;
            u.missed = missed;
            u.waited = waited;
            u.onEnd = onEnd;
            u.longest = longest;
            u.ring = new ArrayList<>(ring);
            return u;
        }
    }

    int cores = 1;
    int locks;
    int bells;
    int tick;
    List<Unit> units = new ArrayList<>();
    int[] holder = new int[6];
    List<List<Integer>> rows = new ArrayList<>();

    static Model random(Random r) {
        Model m = new Model();
        m.cores = 1 + r.nextInt(4);
        m.locks = r.nextInt(7);
        m.bells = r.nextInt(5);
        int tasks = r.nextInt(11);
        int most = 1 + r.nextInt(9);
        boolean tame = r.nextInt(3) > 0;
        m.cores = tame && r.nextBoolean() ? 1 : m.cores;
        for (int i = 0; i < tasks; i++) {
            Unit u = new Unit(i, KINDS[r.nextInt(5)]);
            u.every = 1 + r.nextInt(r.nextBoolean() ? 20 : 6);
            u.refill = 1 + r.nextInt(r.nextInt(4) == 0 ? 99 : 5);
            u.share = 1 + r.nextInt(r.nextInt(4) == 0 ? 999 : 8);
            int ops = r.nextInt(10) == 0 ? 0 : r.nextInt(most + 1);
            if (tame) {
                m.tameOps(u, r, 2 + r.nextInt(7));
                ops = 0;
            }
            for (int j = 0; j < ops; j++) {
                u.ops.add(m.randomOp(r));
            }
            m.units.add(u);
        }
        m.begin();
        return m;
    }

    /** A kernel whose tasks come to wait for each other: each takes some locks in an order of its own. */
    static Model tense(Random r) {
        Model m = new Model();
        m.cores = 1 + r.nextInt(2) * r.nextInt(4);
        m.locks = 2 + r.nextInt(5);
        int tasks = 2 + r.nextInt(9);
        for (int i = 0; i < tasks; i++) {
            Unit u = new Unit(i, KINDS[r.nextInt(3) == 0 ? r.nextInt(5) : 0]);
            u.every = 1 + r.nextInt(12);
            u.refill = 1 + r.nextInt(4);
            u.share = 1 + r.nextInt(6);
            int lock = r.nextInt(m.locks);
            for (int had = 0; had < Math.min(m.locks, 1 + r.nextInt(3)); had++) {
                u.ops.add(new Op("lock", (lock + had) % m.locks));
                if (r.nextInt(3) > 0) {
                    u.ops.add(new Op("work", 1 + r.nextInt(3)));
                }
            }
            if (r.nextInt(3) == 0) {
                u.ops.add(new Op("unlock", lock));
                u.ops.add(new Op("work", 1 + r.nextInt(9)));
            }
            m.units.add(u);
        }
        m.begin();
        return m;
    }

    /** A program without errors but for rings: what it locks it unlocks, innermost first mostly. */
    private void tameOps(Unit u, Random r, int most) {
        List<Integer> had = new ArrayList<>();
        while (u.ops.size() < most - had.size()) {
            int lock = locks == 0 ? 0 : r.nextInt(locks);
            int way = r.nextInt(10);
            if (way < 5) {
                u.ops.add(new Op("work", 1 + r.nextInt(r.nextInt(3) == 0 ? 30 : 6)));
            } else if (way < 8 && locks > 0 && !had.contains(lock)) {
                had.add(lock);
                u.ops.add(new Op("lock", lock));
            } else if (way == 8 && !had.isEmpty()) {
                u.ops.add(new Op("unlock", had.remove(r.nextInt(had.size()))));
            } else if (way == 9) {
                u.ops.add(r.nextInt(4) == 0 && bells > 0 ? new Op(r.nextBoolean() ? "wait" : "ring", r.nextInt(bells))
                        : new Op("sleep", 1 + r.nextInt(8)));
            }
        }
        while (!had.isEmpty() && r.nextInt(6) > 0) {
            u.ops.add(new Op("unlock", had.remove(had.size() - 1)));
        }
    }

    private Op randomOp(Random r) {
        boolean wild = r.nextInt(40) == 0;
        int lock = wild || locks == 0 ? r.nextInt(100) : r.nextInt(locks);
        int bell = wild || bells == 0 ? r.nextInt(100) : r.nextInt(bells);
        switch (r.nextInt(12)) {
            case 0: case 1: return new Op("work", 1 + r.nextInt(r.nextInt(9) == 0 ? 99 : 4));
            case 2: return new Op("sleep", 1 + r.nextInt(r.nextInt(9) == 0 ? 99 : 6));
            case 3: case 4: case 5: case 6: case 7: return locks == 0 ? new Op("work", 2) : new Op("lock", lock);
            case 8: return locks == 0 ? new Op("work", 1) : new Op("unlock", lock);
            case 9: return bells == 0 ? new Op("work", 3) : new Op("wait", bell);
            case 10: return bells == 0 ? new Op("sleep", 3) : new Op("ring", bell);
            default: return new Op("work", 1 + r.nextInt(3));
        }
    }

    String text() {
        StringBuilder b = new StringBuilder();
        b.append("cores ").append(cores).append(";locks ").append(locks).append(";\nbells ").append(bells).append(";");
        for (Unit u : units) {
            b.append("task ").append((char) ('a' + u.number)).append(' ').append(u.kind);
            if (u.budgeted()) {
                b.append(" every ").append(u.every).append(" budget ").append(u.refill);
            }
            b.append(" share ").append(u.share);
            for (Op op : u.ops) {
                b.append(' ').append(op.word).append(op.n);
            }
            b.append(";");
        }
        return b.toString();
    }

    void begin() {
        java.util.Arrays.fill(holder, -1);
        for (Unit u : units) {
            u.state = u.ops.isEmpty() ? ENDED : READY;
            u.left = workAtHand(u);
        }
    }

    private static int workAtHand(Unit u) {
        return u.op() != null && u.op().word.equals("work") ? u.op().n : 0;
    }

    Model copy() {
        Model m = new Model();
        m.cores = cores;
        m.locks = locks;
        m.bells = bells;
        m.tick = tick;
        for (Unit u : units) {
            m.units.add(u.copy());
        }
        m.holder = holder.clone();
        m.rows = new ArrayList<>(rows);
        return m;
    }

    // places

    private static int group(Unit u) {
        if (u.budget > 0) {
            return 0;
        }
        switch (u.kind) {
            case "fair": case "server": return 1;
            case "batch": return 2;
            case "idle": return 3;
            default: return 4;
        }
    }

    private static int within(Unit u) {
        return group(u) == 0 ? u.deadline : group(u) == 4 ? 0 : u.virtual;
    }

    static final Comparator<Unit> BY_OWN_PLACE = Comparator.<Unit>comparingInt(Model::group)
            .thenComparingInt(Model::within).thenComparingInt(u -> u.number);

    Unit place(Unit u) {
        Unit best = u;
        for (Unit v : units) {
            if (v.state == LOCKED && holder[v.waitsFor] == u.number) {
                Unit lent = place(v);
                best = BY_OWN_PLACE.compare(lent, best) < 0 ? lent : best;
            }
        }
        return best;
    }

    private Unit foremost(List<Unit> some) {
        Unit best = null;
        for (Unit u : some) {
            if (best == null || BY_OWN_PLACE.compare(place(u), place(best)) < 0) {
                best = u;
            }
        }
        return best;
    }

    // ops

    void opDone(Unit u) {
        u.state = READY;
        u.waitsFor = -1;
        u.at++;
        u.left = workAtHand(u);
        if (u.op() == null) {
            ends(u);
        }
    }

    void ends(Unit u) {
        u.state = ENDED;
        u.waitsFor = -1;
        for (int lock = 0; lock < locks; lock++) {
            if (holder[lock] == u.number) {
                letGo(lock);
            }
        }
    }

    private void letGo(int lock) {
        List<Unit> waiting = new ArrayList<>();
        for (Unit u : units) {
            if (u.state == LOCKED && u.waitsFor == lock) {
                waiting.add(u);
            }
        }
        Unit next = foremost(waiting);
        holder[lock] = next == null ? -1 : next.number;
        if (next != null) {
            opDone(next);
        }
    }

    private void error(Unit u, int error) {
        u.error = error;
        ends(u);
    }

    private List<Integer> ringOf(Unit u, int lock) {
        List<Integer> ring = new ArrayList<>();
        ring.add(u.number);
        Unit next = units.get(holder[lock]);
        while (next != u) {
            ring.add(next.number);
            if (next.state != LOCKED) {
                return null;
            }
            next = units.get(holder[next.waitsFor]);
        }
        return ring;
    }

    private void doOp(Unit u) {
        Op op = u.op();
        boolean noLock = op.n >= locks;
        boolean noBell = op.n >= bells;
        switch (op.word) {
            case "work":
                u.left--;
                if (u.left == 0) {
                    opDone(u);
                }
                return;
            case "lock":
                if (noLock) {
                    error(u, 1);
                } else if (holder[op.n] == u.number) {
                    error(u, 3);
                } else if (holder[op.n] < 0) {
                    holder[op.n] = u.number;
                    opDone(u);
                } else if (ringOf(u, op.n) != null) {
                    u.ring = ringOf(u, op.n);
                    error(u, 4);
                } else {
                    u.state = LOCKED;
                    u.waitsFor = op.n;
                }
                return;
            case "unlock":
                if (noLock) {
                    error(u, 1);
                } else if (holder[op.n] != u.number) {
                    error(u, 2);
                } else {
                    letGo(op.n);
                    opDone(u);
                }
                return;
            case "wait":
                if (noBell) {
                    error(u, 1);
                } else {
                    u.state = BELLED;
                    u.waitsFor = op.n;
                }
                return;
            case "ring":
                if (noBell) {
                    error(u, 1);
                    return;
                }
                for (Unit v : units) {
                    if (v.state == BELLED && v.waitsFor == op.n) {
                        opDone(v);
                    }
                }
                opDone(u);
                return;
            default:
                u.state = SLEEPS;
                u.waitsFor = tick + op.n + 1;
        }
    }

    // ticks

    List<Integer> tick(boolean busy) {
        for (Unit u : units) {
            if (u.budgeted() && u.state != ENDED && tick % u.every == 0) {
                if (u.state == READY && u.budget > 0 && tick != 0) {
                    u.missed++;
                }
                u.budget = u.refill;
                u.deadline = tick + u.every;
            }
        }
        for (Unit u : units) {
            if (!busy && u.state == SLEEPS && u.waitsFor == tick) {
                opDone(u);
            }
        }
        List<Unit> ready = new ArrayList<>();
        for (Unit u : units) {
            if (u.state == READY) {
                ready.add(u);
            }
        }
        List<Unit> left = new ArrayList<>(ready);
        left.removeIf(u -> group(place(u)) == 4);
        List<Integer> row = new ArrayList<>();
        List<Unit> picked = new ArrayList<>();
        for (int p = 0; p < cores; p++) {
            Unit best = foremost(left);
            row.add(best == null ? -1 : best.number);
            if (best != null) {
                left.remove(best);
                picked.add(best);
            }
        }
        for (Unit u : ready) {
            if (picked.contains(u)) {
                u.onEnd = 0;
            } else {
                u.waited++;
                u.onEnd++;
                u.longest = Math.max(u.longest, u.onEnd);
            }
        }
        for (Unit u : picked) {
            if (!busy) {
                doOp(u);
            }
        }
        for (Unit u : picked) {
            if (u.budget > 0) {
                u.budget--;
            } else if (!u.kind.equals("deadline")) {
                int due = 1000 + u.rest;
                u.virtual += due / u.share;
                u.rest = due % u.share;
            }
        }
        tick++;
        rows.add(row);
        return row;
    }

    // what is asked

    int soon(int task) {
        if (units.get(task).state != READY) {
            return -1;
        }
        Model m = copy();
        for (int i = 1; i <= 2000; i++) {
            if (m.tick(true).contains(task)) {
                return i;
            }
        }
        return -1;
    }

    int enough(int task, int n) {
        for (int share = 1; share <= 60 && units.get(task).state != ENDED; share++) {
            Model m = copy();
            Unit u = m.units.get(task);
            u.share = share;
            for (int i = 0; i < n; i++) {
                m.tick(false);
            }
            if (u.state == ENDED && u.error == 0) {
                return share;
            }
        }
        return -1;
    }

    /** The rows of so many ticks from the beginning (of a model that has not run), by another share of a task. */
    List<List<Integer>> rowsBy(int task, int share, int ticks) {
        Model m = copy();
        m.units.get(task).share = share;
        for (int i = 0; i < ticks; i++) {
            m.tick(false);
        }
        return m.rows;
    }

    /** The locks round, by trying every way round from each lock. */
    List<Integer> risk() {
        boolean[][] behind = new boolean[6][6];
        for (Unit u : units) {
            List<Integer> had = new ArrayList<>();
            for (Op op : u.ops) {
                if (op.word.equals("lock")) {
                    if (op.n >= locks || had.contains(op.n)) {
                        break;
                    }
                    for (int other : had) {
                        behind[op.n][other] = true;
                    }
                    had.add(op.n);
                } else if (op.word.equals("unlock")) {
                    had.remove((Integer) op.n);
                }
            }
        }
        for (int lock = 0; lock < 6; lock++) {
            for (int length = 1; length <= 6; length++) {
                List<Integer> way = new ArrayList<>(List.of(lock));
                if (goRound(behind, way, length)) {
                    return way;
                }
            }
        }
        return new ArrayList<>();
    }

    private static boolean goRound(boolean[][] behind, List<Integer> way, int length) {
        int last = way.get(way.size() - 1);
        if (way.size() == length) {
            return behind[way.get(0)][last];
        }
        for (int next = 0; next < 6; next++) {
            if (behind[next][last]) {
                way.add(next);
                if (goRound(behind, way, length)) {
                    return true;
                }
                way.remove(way.size() - 1);
            }
        }
        return false;
    }
}
