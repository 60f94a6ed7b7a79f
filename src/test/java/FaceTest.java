import java.util.Map;
import java.util.Random;
import java.util.TreeMap;

/** Runs of 500 random calls of the whole face (promises 1 to 29): each answer against that of the plain second writing. */
public final class FaceTest {
    private static final Map<String, Integer> SEEN = new TreeMap<>();

    private final Random r;
    private final FairWheel x = new FairWheel();
    private final Plain plain = new Plain();
    private final StringBuilder calls = new StringBuilder();

    private FaceTest(int seed) {
        r = new Random(seed);
    }

    public static void main(String[] args) {
        int runs = args.length > 0 ? Integer.parseInt(args[0]) : 300;
        for (int seed = 0; seed < runs && Due.wrong() == 0; seed++) {
            new FaceTest(seed).go(seed);
        }
        System.out.println("seen: " + SEEN);
        for (String what : new String[] {"ring 3", "fits some", "enough some", "soon late", "check some", "place lent", "risk 3",
            "kernel fault"}) {
            Due.due("seen " + what, SEEN.containsKey(what), true);
        }
        Due.finish("FaceTest");
    }

    private static void seen(boolean was, String what) {
        if (was) {
            SEEN.merge(what, 1, Integer::sum);
        }
    }

    private void go(int seed) {
        for (int i = 0; i < 500 && Due.wrong() == 0; i++) {
            if (r.nextInt(120) == 0 || i == 0) {
                newText();
            }
            if (r.nextInt(400) == 0) {
                same("kernel()", x.kernel(), plain.kernel());
                seen(x.fault(0) > 0, "kernel fault");
            }
            anyCall();
        }
        if (Due.wrong() > 0) {
            System.out.println("seed " + seed + calls);
        }
    }

    private long same(String call, long got, long want) {
        calls.append('\n').append(call).append(": ").append(got);
        Due.due(call, got, want);
        return got;
    }

    private void same(String call, boolean got, boolean want) {
        same(call, got ? 1 : 0, want ? 1 : 0);
    }

    private void newText() {
        Model m = r.nextInt(3) == 0 ? Model.random(r) : Model.tense(r);
        String text = r.nextInt(4) == 0 ? TextModel.spoil(m.text(), r) : m.text();
        if (r.nextInt(8) > 0) {
            same("end(0)", x.end(0), plain.end(0));
        }
        int before = x.about(9);
        for (int i = 0; i < text.length(); i += 20) {
            int[] five = new int[5];
            for (int j = 0; j < 20; j++) {
                int sign = i + j < text.length() ? text.charAt(i + j) : ' ';
                five[j / 4] = five[j / 4] << 8 | sign;
            }
            same("feed()", x.feed(five[0], five[1], five[2], five[3], five[4]),
                    plain.feed(five[0], five[1], five[2], five[3], five[4]));
        }
        int end = before + text.length();
        same("end(" + end + ")", x.end(end), plain.end(end));
        same("kernel() of " + text, x.kernel(), plain.kernel());
        seen(x.fault(0) > 0, "kernel fault");
    }

    /** A number from below what can be to above it, mostly within. */
    private int upTo(int most) {
        return r.nextInt(30) == 0 ? r.nextInt() : r.nextInt(most + 3) - 1;
    }

    private int aTask() {
        return r.nextInt(20) == 0 ? upTo(10) : r.nextInt(Math.max(1, x.about(0)));
    }

    private int aTick() {
        return r.nextInt(20) == 0 ? upTo(2000) : r.nextInt(x.about(4) + 2);
    }

    private void anyCall() {
        switch (r.nextInt(14)) {
            case 0: case 1: case 2: ticks(); break;
            case 3: case 4: case 5: aboutATask(); break;
            case 6: aboutALock(); break;
            case 7: act(); break;
            case 8: ask(); break;
            case 9: told(); break;
            case 10: seenThings(); break;
            case 11: boxes(); break;
            case 12: tape(); break;
            default: theRest();
        }
    }

    private void ticks() {
        int n = r.nextInt(12) == 0 ? upTo(200) : r.nextInt(7);
        same("run(" + n + ")", x.run(n), plain.run(n));
        int tick = aTick();
        int processor = upTo(4);
        same("chosen(" + tick + ", " + processor + ")", x.chosen(tick, processor), plain.chosen(tick, processor));
    }

    private void aboutATask() {
        int task = aTask();
        for (int i = 0; i < 4; i++) {
            int what = upTo(12);
            same("task(" + task + ", " + what + ")", x.task(task, what), plain.task(task, what));
        }
        long place = same("place(" + task + ")", x.place(task), plain.place(task));
        seen(place >= 0 && place != task, "place lent");
        int i = upTo(5);
        same("ring(" + task + ", " + i + ")", x.ring(task, i), plain.ring(task, i));
        for (int all = 0; all < x.about(0); all++) {
            int size = 0;
            while (same("ring(" + all + ", " + size + ")", x.ring(all, size), plain.ring(all, size)) >= 0) {
                size++;
            }
            seen(size > 0, "ring " + size);
        }
    }

    private void aboutALock() {
        int lock = upTo(6);
        same("holder(" + lock + ")", x.holder(lock), plain.holder(lock));
        same("waits(" + lock + ")", x.waits(lock), plain.waits(lock));
    }

    private void act() {
        int task = aTask();
        int which = r.nextInt(5);
        if (which < 2) {
            int share = r.nextInt(3) == 0 ? upTo(999) : upTo(9);
            same("share(" + task + ", " + share + ")", x.share(task, share), plain.share(task, share));
        } else if (which < 4) {
            same("wake(" + task + ")", x.wake(task), plain.wake(task));
        } else if (r.nextInt(3) == 0) {
            same("kill(" + task + ")", x.kill(task), plain.kill(task));
        }
    }

    private void ask() {
        int task = aTask();
        int n = upTo(100);
        switch (r.nextInt(4)) {
            case 0:
                seen(same("soon(" + task + ")", x.soon(task), plain.soon(task)) > 3, "soon late");
                break;
            case 1:
                long share = same("enough(" + task + ", " + n + ")", x.enough(task, n), plain.enough(task, n));
                seen(share > 1, "enough some");
                break;
            case 2:
                n = upTo(6);
                same("risk(" + n + ")", x.risk(n), plain.risk(n));
                seen(true, "risk " + same("risk(0)", x.risk(0), plain.risk(0)));
                break;
            default:
                n = upTo(1);
                same("load(" + n + ")", x.load(n), plain.load(n));
        }
    }

    private void told() {
        int tick = aTick();
        int processor = r.nextInt(20) == 0 ? upTo(3) : r.nextInt(x.about(1));
        int task = r.nextInt(15) == 0 ? upTo(9) : x.chosen(tick, processor);
        same("tell(" + tick + ", " + processor + ", " + task + ")", x.tell(tick, processor, task),
                plain.tell(tick, processor, task));
        seen(same("check()", x.check(), plain.check()) > 0, "check some");
        if (r.nextInt(12) == 0) {
            same("hush()", x.hush(), plain.hush());
        }
    }

    private void seenThings() {
        int tick = r.nextInt(20) == 0 ? upTo(99) : r.nextInt(25);
        int task = aTask();
        boolean ran = r.nextBoolean();
        if (r.nextBoolean()) {
            same("sight(" + tick + ", " + task + ", " + ran + ")", x.sight(tick, task, ran), plain.sight(tick, task, ran));
        }
        if (r.nextInt(3) == 0) {
            int sight = r.nextInt(5) == 0 ? upTo(20) : r.nextInt(x.about(7) + 1);
            same("untell(" + sight + ")", x.untell(sight), plain.untell(sight));
        }
        int by = r.nextInt(10) == 0 ? upTo(1000) : r.nextInt(3);
        same("later(" + by + ")", x.later(by), plain.later(by));
        int k = r.nextInt(20) == 0 ? upTo(1000) : r.nextInt(x.about(8) + 2);
        if (r.nextInt(3) == 0) {
            long bits = same("fits(" + task + ", " + k + ")", x.fits(task, k), plain.fits(task, k));
            seen(bits > 0 && Long.bitCount(bits) < 40, "fits some");
        }
    }

    private void boxes() {
        int box = upTo(2);
        if (r.nextInt(3) > 0) {
            same("image(" + box + ")", x.image(box), plain.image(box));
        } else {
            same("back(" + box + ")", x.back(box), plain.back(box));
        }
    }

    private void tape() {
        int a = r.nextInt();
        int n = r.nextInt(4) == 0 ? upTo(1700) : r.nextInt(x.about(9) + 1);
        if (r.nextInt(6) == 0) {
            same("feed", x.feed(a, ~a, a << 3, a >> 5, -a), plain.feed(a, ~a, a << 3, a >> 5, -a));
        } else {
            same("end(" + n + ")", x.end(n), plain.end(n));
        }
    }

    private void theRest() {
        int what = upTo(10);
        same("about(" + what + ")", x.about(what), plain.about(what));
        what = upTo(1);
        same("fault(" + what + ")", x.fault(what), plain.fault(what));
    }
}
