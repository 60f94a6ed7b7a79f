import java.util.Random;

/** Any calls with any arguments in any state: none throws, and the same calls give the same answers. */
public final class AnyCallTest {
    private static final int[] EDGES = {Integer.MIN_VALUE, Integer.MIN_VALUE + 1, -2000, -3, -2, -1, 0, 1, 2, 3, 4, 5, 6, 7,
        8, 9, 10, 11, 12, 13, 19, 20, 39, 40, 59, 60, 61, 99, 100, 101, 199, 200, 201, 998, 999, 1000, 1001, 1699, 1700,
        1701, 1999, 2000, 2001, 100000, 100001, 1 << 30, Integer.MAX_VALUE - 1, Integer.MAX_VALUE};

    public static void main(String[] args) {
        int runs = args.length > 0 ? Integer.parseInt(args[0]) : 400;
        for (int seed = 0; seed < runs; seed++) {
            long one = oneRun(seed);
            Due.due("the same calls of seed " + seed, oneRun(seed), one);
        }
        Due.finish("AnyCallTest");
    }

    private static int number(Random r) {
        switch (r.nextInt(4)) {
            case 0: return EDGES[r.nextInt(EDGES.length)];
            case 1: return r.nextInt();
            default: return r.nextInt(12);
        }
    }

    /** A text that is nearly one of a kernel. */
    private static String text(Random r) {
        StringBuilder text = new StringBuilder(Model.random(r).text());
        for (int i = r.nextInt(3) - 1; i > 0; i--) {
            text.setCharAt(r.nextInt(text.length()), (char) (r.nextBoolean() ? r.nextInt(256) : "a0;1 z".charAt(r.nextInt(6))));
        }
        return text.toString();
    }

    private static long oneRun(int seed) {
        Random r = new Random(seed);
        FairWheel x = new FairWheel();
        long all = 0;
        for (int i = 0; i < 512; i++) {
            if (i % 128 == 0 && r.nextInt(8) > 0) {
                x.end(0);
                Due.feed(x, text(r));
                x.kernel();
            }
            all = all * 31 + anyCall(x, r.nextInt(29), r);
        }
        return all;
    }

    private static long anyCall(FairWheel x, int which, Random r) {
        int a = number(r);
        int b = number(r);
        switch (which) {
            case 0: return r.nextInt(50) == 0 ? x.feed(a, b, a, b, a) : 0;
            case 1: return x.end(a);
            case 2: return r.nextInt(50) == 0 ? x.kernel() : 0;
            case 3: return x.fault(a);
            case 4: return x.run(a);
            case 5: return x.chosen(a, b);
            case 6: return x.task(a, b);
            case 7: return x.place(a);
            case 8: return x.holder(a);
            case 9: return x.waits(a);
            case 10: return x.ring(a, b);
            case 11: return x.share(a, b);
            case 12: return r.nextInt(10) == 0 && x.kill(a) ? 1 : 0;
            case 13: return x.wake(a) ? 1 : 0;
            case 14: return x.soon(a);
            case 15: return x.load(a);
            case 16: return x.risk(a);
            case 17: return x.enough(a, b);
            case 18: return x.tell(a, b, number(r));
            case 19: return r.nextInt(10) == 0 ? x.hush() : 0;
            case 20: return x.check();
            case 21: return x.sight(a, b, r.nextBoolean());
            case 22: return x.untell(a) ? 1 : 0;
            case 23: return x.later(a);
            case 24: return x.fits(a, b);
            case 25: return x.image(a);
            case 26: return x.back(a);
            case 27: return x.about(a);
            default: return x.run(r.nextInt(20));
        }
    }
}
