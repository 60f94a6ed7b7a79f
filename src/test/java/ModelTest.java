import java.util.ArrayList;
import java.util.HashMap;
import java.util.List;
import java.util.Map;
import java.util.Random;

/** Random kernels and acts, the class against the model (promises 4 and 6 to 29). */
public final class ModelTest {
    private static final Map<String, Integer> SEEN = new HashMap<>();

    public static void main(String[] args) {
        int runs = args.length > 0 ? Integer.parseInt(args[0]) : 1500;
        for (int seed = 0; seed < runs && Due.wrong() == 0; seed++) {
            oneRun(seed);
        }
        System.out.println("seen: " + new java.util.TreeMap<>(SEEN));
        for (String what : new String[] {"error 1", "error 2", "error 3", "error 4", "ring of 2", "missed", "lent twice",
            "risk 2", "risk 3", "soon", "enough", "enough none", "fits some"}) {
            Due.due("seen " + what, SEEN.containsKey(what), true);
        }
        Due.finish("ModelTest");
    }

    private static void seen(String what) {
        SEEN.merge(what, 1, Integer::sum);
    }

    private static void oneRun(int seed) {
        Random r = new Random(seed);
        Model first = Model.random(r);
        Model m = first.copy();
        String text = first.text();
        FairWheel x = new FairWheel();
        Due.due("seed " + seed + " " + text, Due.kernel(x, text), m.units.size());
        Model[] boxes = new Model[3];
        for (int step = 0; step < 25 && Due.wrong() == 0; step++) {
            String where = "seed " + seed + " step " + step;
            int task = m.units.isEmpty() ? 0 : r.nextInt(m.units.size());
            switch (r.nextInt(m.units.isEmpty() ? 1 : 9)) {
                case 0: case 1: case 2: case 3:
                    int ticks = r.nextInt(r.nextInt(5) == 0 ? 60 : 6);
                    for (int i = 0; i < ticks; i++) {
                        m.tick(false);
                    }
                    Due.due(where + " run", x.run(ticks), m.tick);
                    break;
                case 4:
                    act(where, r, m, x, task);
                    break;
                case 5:
                    ask(where, r, m, x, task);
                    break;
                case 6:
                    int box = r.nextInt(3);
                    boxes[box] = m.copy();
                    Due.due(where + " image", x.image(box), m.tick);
                    break;
                case 7:
                    box = r.nextInt(3);
                    m = boxes[box] == null ? m : boxes[box].copy();
                    Due.due(where + " back", x.back(box), boxes[box] == null ? -1 : m.tick);
                    break;
                default:
                    fits(where, r, first, x, task);
            }
            compare(where, m, x);
        }
        if (Due.wrong() > 0) {
            System.out.println(text);
        }
    }

    private static void act(String where, Random r, Model m, FairWheel x, int task) {
        Model.Unit u = m.units.get(task);
        switch (r.nextInt(3)) {
            case 0:
                int share = r.nextInt(12);
                boolean can = u.state != Model.ENDED && share > 0;
                Due.due(where + " share", x.share(task, share), can ? u.share : -1);
                u.share = can ? share : u.share;
                break;
            case 1:
                can = u.state != Model.ENDED;
                Due.due(where + " kill", x.kill(task), can);
                if (can) {
                    m.ends(u);
                }
                break;
            default:
                can = u.state == Model.SLEEPS || u.state == Model.BELLED;
                Due.due(where + " wake", x.wake(task), can);
                if (can) {
                    m.opDone(u);
                }
        }
    }

    private static void ask(String where, Random r, Model m, FairWheel x, int task) {
        int soon = m.soon(task);
        Due.due(where + " soon", x.soon(task), soon);
        seen(soon > 1 ? "soon" : "soon else");
        int n = 1 + r.nextInt(r.nextInt(3) > 0 ? 100 : 12);
        int enough = m.enough(task, n);
        Due.due(where + " enough", x.enough(task, n), enough);
        seen(enough > 1 ? "enough" : "enough none");
        List<Integer> risk = m.risk();
        Due.due(where + " risk", x.risk(0), risk.size());
        for (int i = 0; i < risk.size(); i++) {
            Due.due(where + " risk " + i, x.risk(i + 1), risk.get(i));
        }
        seen("risk " + risk.size());
    }

    /** Tells sights as they are by one share of a task, and asks which shares fit. */
    private static void fits(String where, Random r, Model first, FairWheel x, int task) {
        if (x.about(7) > 15) {
            return;
        }
        int share = 1 + r.nextInt(40);
        int ticks = 1 + r.nextInt(r.nextBoolean() ? 100 : 30);
        x.later(1);
        List<Integer> numbers = new ArrayList<>();
        List<int[]> told = new ArrayList<>();
        List<List<Integer>> rows = first.rowsBy(task, share, ticks);
        for (int i = 0; i < 1 + r.nextInt(4); i++) {
            int tick = r.nextInt(ticks);
            int who = r.nextInt(first.units.size());
            boolean ran = rows.get(tick).contains(who);
            numbers.add(x.sight(tick, who, ran));
            told.add(new int[] {tick, who, ran ? 1 : 0});
        }
        long bits = 0;
        for (int s = 1; s <= 40; s++) {
            List<List<Integer>> by = first.rowsBy(task, s, ticks);
            boolean so = true;
            for (int[] one : told) {
                so = so && by.get(one[0]).contains(one[1]) == (one[2] == 1);
            }
            bits |= so ? 1L << s : 0;
        }
        int time = x.about(8);
        Due.due(where + " fits", x.fits(task, time), bits);
        seen(Long.bitCount(bits) == 40 ? "fits all" : "fits some");
        x.later(1);
        for (int number : numbers) {
            if (number >= 0) {
                Due.due(where + " untell", x.untell(number), true);
            }
        }
        Due.due(where + " fits nothing", x.fits(task, time + 1), (1L << 41) - 2);
        Due.due(where + " fits as known", x.fits(task, time), bits);
    }

    private static void compare(String where, Model m, FairWheel x) {
        int alive = 0;
        for (Model.Unit u : m.units) {
            int[] all = {u.state, u.at, u.left, u.virtual, u.rest, u.share, u.budget, u.deadline, u.error, u.waitsFor,
                u.missed, u.waited, u.longest};
            for (int what = 0; what < all.length; what++) {
                Due.due(where + " task " + u.number + " " + what, x.task(u.number, what), all[what]);
            }
            int place = u.state == Model.ENDED ? -1 : m.place(u).number;
            Due.due(where + " place " + u.number, x.place(u.number), place);
            for (int i = 0; i <= 10; i++) {
                Due.due(where + " ring", x.ring(u.number, i), i < u.ring.size() ? u.ring.get(i) : -1);
            }
            alive += u.state == Model.ENDED ? 0 : 1;
            seen("error " + u.error);
            seen("ring of " + u.ring.size());
            seen(u.missed > 0 ? "missed" : "not missed");
            boolean far = place >= 0 && place != u.number && m.holder[m.units.get(place).waitsFor] != u.number;
            seen(far ? "lent twice" : "lent less");
        }
        Due.due(where + " alive", x.about(5), alive);
        for (int lock = 0; lock < m.locks; lock++) {
            int waits = 0;
            for (Model.Unit u : m.units) {
                waits |= u.state == Model.LOCKED && u.waitsFor == lock ? 1 << u.number : 0;
            }
            Due.due(where + " waits", x.waits(lock), waits);
            Due.due(where + " holder", x.holder(lock), m.holder[lock]);
        }
        for (int tick = 0; tick <= m.tick; tick++) {
            for (int p = 0; p < 4; p++) {
                boolean was = tick < m.tick && p < m.cores;
                Due.due(where + " chosen", x.chosen(tick, p), was ? m.rows.get(tick).get(p) : -1);
            }
        }
    }
}
