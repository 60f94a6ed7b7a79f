import java.util.ArrayList;
import java.util.List;

/** The whole face once more, over Model and TextModel, with a line or two for each promise. */
final class Plain {
    static final int NONE = -1;

    private static final class Sight {
        int tick;
        int task;
        boolean ran;
        int told;
        long untold = Long.MAX_VALUE;
    }

    private final List<Integer> tape = new ArrayList<>();
    private Model first = new TextModel("").kernel();
    private Model now = first.copy();
    private int fault = 0;
    private int faultPlace = NONE;
    private final List<int[]> choices = new ArrayList<>();
    private final List<Sight> sights = new ArrayList<>();
    private Model[] boxes = new Model[3];
    private int time = 0;

    private Model.Unit unit(int task) {
        return task >= 0 && task < now.units.size() ? now.units.get(task) : null;
    }

    private Model.Unit alive(int task) {
        return unit(task) == null || unit(task).state == Model.ENDED ? null : unit(task);
    }

    int feed(int a, int b, int c, int d, int e) {
        if (tape.size() > 1680) {
            return NONE;
        }
        for (int number : new int[] {a, b, c, d, e}) {
            for (byte one : java.nio.ByteBuffer.allocate(4).putInt(number).array()) {
                tape.add(Byte.toUnsignedInt(one));
            }
        }
        return tape.size();
    }

    int end(int n) {
        if (n < 0 || n > tape.size()) {
            return NONE;
        }
        tape.subList(n, tape.size()).clear();
        return n;
    }

    int kernel() {
        StringBuilder text = new StringBuilder();
        for (int one : tape) {
            text.append((char) one);
        }
        TextModel reader = new TextModel(text.toString());
        fault = reader.fault();
        faultPlace = reader.place();
        if (!reader.good()) {
            return NONE;
        }
        tape.clear();
        first = reader.kernel();
        now = first.copy();
        choices.clear();
        sights.clear();
        boxes = new Model[3];
        return now.units.size();
    }

    int fault(int what) {
        return what == 0 ? fault : what == 1 ? faultPlace : NONE;
    }

    int run(int ticks) {
        if (ticks < 0 || ticks > 200 || now.tick + ticks > 2000) {
            return NONE;
        }
        for (int i = 0; i < ticks; i++) {
            now.tick(false);
        }
        return now.tick;
    }

    private boolean was(int tick, int processor) {
        return tick >= 0 && tick < now.tick && processor >= 0 && processor < now.cores;
    }

    int chosen(int tick, int processor) {
        return was(tick, processor) ? now.rows.get(tick).get(processor) : NONE;
    }

    int task(int task, int what) {
        Model.Unit u = unit(task);
        if (u == null || what < 0 || what > 12) {
            return -2;
        }
        return new int[] {u.state, u.at, u.left, u.virtual, u.rest, u.share, u.budget, u.deadline, u.error, u.waitsFor,
            u.missed, u.waited, u.longest}[what];
    }

    int place(int task) {
        return alive(task) == null ? NONE : now.place(unit(task)).number;
    }

    int holder(int lock) {
        return lock >= 0 && lock < now.locks ? now.holder[lock] : NONE;
    }

    int waits(int lock) {
        if (lock < 0 || lock >= now.locks) {
            return NONE;
        }
        int bits = 0;
        for (Model.Unit u : now.units) {
            bits += u.state == Model.LOCKED && u.waitsFor == lock ? 1 << u.number : 0;
        }
        return bits;
    }

    int ring(int task, int i) {
        return unit(task) != null && i >= 0 && i < unit(task).ring.size() ? unit(task).ring.get(i) : NONE;
    }

    int share(int task, int share) {
        if (alive(task) == null || share < 1 || share > 999) {
            return NONE;
        }
        int was = unit(task).share;
        unit(task).share = share;
        return was;
    }

    boolean kill(int task) {
        if (alive(task) == null) {
            return false;
        }
        now.ends(unit(task));
        return true;
    }

    boolean wake(int task) {
        Model.Unit u = unit(task);
        if (u == null || u.state != Model.SLEEPS && u.state != Model.BELLED) {
            return false;
        }
        now.opDone(u);
        return true;
    }

    int soon(int task) {
        return unit(task) == null ? NONE : now.soon(task);
    }

    long load(int part) {
        long upper = 0;
        long lower = 1;
        for (Model.Unit u : now.units) {
            if (u.budgeted() && u.state != Model.ENDED) {
                upper = upper * u.every + lower * u.refill;
                lower *= u.every;
            }
        }
        long common = java.math.BigInteger.valueOf(upper).gcd(java.math.BigInteger.valueOf(lower)).longValue();
        return part == 0 ? upper / common : part == 1 ? lower / common : NONE;
    }

    int risk(int what) {
        List<Integer> round = now.risk();
        if (what < 0) {
            return -2;
        }
        return what == 0 ? round.size() : what <= round.size() ? round.get(what - 1) : NONE;
    }

    int enough(int task, int n) {
        return alive(task) == null || n < 1 || n > 100 ? NONE : now.enough(task, n);
    }

    int tell(int tick, int processor, int task) {
        if (tick < 0 || tick > 1999 || processor < 0 || processor > 3 || task < -1 || task > 9 || choices.size() == 60) {
            return NONE;
        }
        choices.add(new int[] {tick, processor, task});
        return choices.size();
    }

    int hush() {
        int were = choices.size();
        choices.clear();
        return were;
    }

    int check() {
        for (int[] one : choices) {
            if (!was(one[0], one[1]) || chosen(one[0], one[1]) != one[2]) {
                return choices.indexOf(one);
            }
        }
        return NONE;
    }

    int sight(int tick, int task, boolean ran) {
        if (tick < 0 || tick > 99 || unit(task) == null || sights.size() == 20) {
            return NONE;
        }
        Sight one = new Sight();
        one.tick = tick;
        one.task = task;
        one.ran = ran;
        one.told = time;
        sights.add(one);
        return sights.indexOf(one);
    }

    boolean untell(int sight) {
        if (sight < 0 || sight >= sights.size() || sights.get(sight).untold <= time) {
            return false;
        }
        sights.get(sight).untold = time;
        return true;
    }

    int later(int by) {
        if (by < 0 || by > 1000 || time + by > 100000) {
            return NONE;
        }
        time += by;
        return time;
    }

    long fits(int task, int k) {
        if (unit(task) == null) {
            return NONE;
        }
        long bits = 0;
        for (int share = 1; share <= 40; share++) {
            List<List<Integer>> rows = first.rowsBy(task, share, 100);
            boolean so = true;
            for (Sight one : sights) {
                boolean counts = one.told <= k && one.untold > k;
                so &= !counts || rows.get(one.tick).contains(one.task) == one.ran;
            }
            bits |= so ? 1L << share : 0;
        }
        return bits;
    }

    int image(int box) {
        if (box < 0 || box > 2) {
            return NONE;
        }
        boxes[box] = now.copy();
        return now.tick;
    }

    int back(int box) {
        if (box < 0 || box > 2 || boxes[box] == null) {
            return NONE;
        }
        now = boxes[box].copy();
        return now.tick;
    }

    int about(int what) {
        int ops = 0;
        int alive = 0;
        for (Model.Unit u : now.units) {
            ops += u.ops.size();
            alive += u.state == Model.ENDED ? 0 : 1;
        }
        int[] all = {now.units.size(), now.cores, now.locks, now.bells, now.tick, alive, choices.size(), sights.size(), time,
            tape.size(), ops};
        return what >= 0 && what < all.length ? all[what] : NONE;
    }
}
