import java.util.Map;
import java.util.Random;
import java.util.TreeMap;

/** Random texts, spoiled a little, against a second reader that finds all faults and then the first of them. */
public final class TextModelTest {
    public static void main(String[] args) {
        int runs = args.length > 0 ? Integer.parseInt(args[0]) : 20000;
        Map<Integer, Integer> seen = new TreeMap<>();
        for (int seed = 0; seed < runs && Due.wrong() == 0; seed++) {
            Random r = new Random(seed);
            String text = TextModel.spoil(Model.random(r).text(), r);
            if (text.length() <= 1700) {
                seen.merge(oneText(text), 1, Integer::sum);
            }
        }
        System.out.println("faults seen: " + seen);
        for (int fault = 0; fault <= 4; fault++) {
            Due.due("seen fault " + fault, seen.containsKey(fault), true);
        }
        Due.finish("TextModelTest");
    }

    private static int oneText(String text) {
        TextModel reader = new TextModel(text);
        Due.fault(text, reader.fault(), reader.place());
        if (reader.good()) {
            compare(text, reader.kernel());
        }
        return reader.fault();
    }

    private static void compare(String text, Model m) {
        FairWheel x = Due.of(text);
        Due.due("processors of " + text, x.about(1), m.cores);
        Due.due("locks of " + text, x.about(2), m.locks);
        Due.due("bells of " + text, x.about(3), m.bells);
        int ops = 0;
        for (Model.Unit u : m.units) {
            Due.due("share of " + text, x.task(u.number, 5), u.share);
            ops += u.ops.size();
        }
        Due.due("tasks of " + text, x.about(0), m.units.size());
        Due.due("ops of " + text, x.about(10), ops);
    }
}
