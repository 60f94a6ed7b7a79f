import java.util.ArrayList;
import java.util.HashSet;
import java.util.List;
import java.util.Map;
import java.util.Random;
import java.util.Set;
import java.util.regex.Matcher;
import java.util.regex.Pattern;

/** A second reader of texts: it finds all faults, and then the first of them; and it spoils good texts a little. */
final class TextModel {
    private static final String[] WORDS = {"cores", "locks", "bells", "task", "fair", "batch", "idle", "deadline", "server",
        "every", "budget", "share", "work", "lock", "unlock", "wait", "ring", "sleep"};
    /** One sign for each word above; n is a NAME, N a number. */
    private static final String SIGNS = "clbtfBidsEgSwkuarp";
    private static final Pattern GRAMMAR = Pattern.compile("([clb]N;|tn([fBi]|[ds]ENgN)SN([wkuarp]N)*;)*");
    private static final Pattern BLANKS = Pattern.compile("[ \n]*");
    private static final Pattern TOKEN = Pattern.compile("([a-z]{1,8})(?![a-z])|([0-9]{1,4})(?![0-9a-z])|(;)");
    private static final Map<Character, int[]> BOUNDS = Map.ofEntries(Map.entry('c', new int[] {1, 4}),
            Map.entry('l', new int[] {0, 6}), Map.entry('b', new int[] {0, 4}), Map.entry('E', new int[] {1, 20}),
            Map.entry('g', new int[] {1, 99}), Map.entry('S', new int[] {1, 999}), Map.entry('w', new int[] {1, 99}),
            Map.entry('p', new int[] {1, 99}), Map.entry('k', new int[] {0, 99}), Map.entry('u', new int[] {0, 99}),
            Map.entry('a', new int[] {0, 99}), Map.entry('r', new int[] {0, 99}));

    private final List<String> tokens = new ArrayList<>();
    private final List<Integer> places = new ArrayList<>();
    private final StringBuilder signs = new StringBuilder();
    /** Ten times the place and the fault: the least is the first by place, then by fault. */
    private int first = Integer.MAX_VALUE;

    TextModel(String text) {
        read(text);
    }

    boolean good() {
        return first == Integer.MAX_VALUE;
    }

    int fault() {
        return good() ? 0 : first % 10;
    }

    int place() {
        return good() ? -1 : first / 10;
    }

    /** The kernel of a text without a fault, line by line. */
    Model kernel() {
        Model m = new Model();
        for (int i = 0; i < tokens.size(); i++) {
            int n = i + 1 < tokens.size() && signs.charAt(i + 1) == 'N' ? Integer.parseInt(tokens.get(i + 1)) : 0;
            Model.Unit u = m.units.isEmpty() ? null : m.units.get(m.units.size() - 1);
            String token = tokens.get(i);
            switch (signs.charAt(i)) {
                case 'c': m.cores = n; break;
                case 'l': m.locks = n; break;
                case 'b': m.bells = n; break;
                case 't': m.units.add(new Model.Unit(m.units.size(), tokens.get(i + 2))); break;
                case 'E': u.every = n; break;
                case 'g': u.refill = n; break;
                case 'S': u.share = n; break;
                case 'w': case 'k': case 'u': case 'a': case 'r': case 'p': u.ops.add(new Model.Op(token, n)); break;
                default:
            }
        }
        m.begin();
        return m;
    }

    private void found(int fault, int place) {
        first = Math.min(first, 10 * place + fault);
    }

    private void read(String text) {
        int at = split(text);
        int good = 0;
        while (good < signs.length() && canStand(good + 1)) {
            good++;
        }
        if (good < signs.length()) {
            found(2, places.get(good));
        } else if (at == text.length() && !GRAMMAR.matcher(signs).matches()) {
            found(2, at);
        }
        Set<String> names = new HashSet<>();
        StringBuilder before = new StringBuilder();
        for (int i = 0; i < good; i++) {
            char sign = signs.charAt(i);
            int[] bounds = i > 0 ? BOUNDS.get(signs.charAt(i - 1)) : null;
            before.append(sign);
            long same = before.chars().filter(c -> c == sign).count();
            if ("clb".indexOf(sign) >= 0 && same > 1 || sign == 't' && same > 10) {
                found(2, places.get(i));
            } else if ("wkuarp".indexOf(sign) >= 0 && before.chars().filter(c -> "wkuarp".indexOf(c) >= 0).count() > 90) {
                found(2, places.get(i));
            } else if (sign == 'n' && !names.add(tokens.get(i))) {
                found(3, places.get(i));
            } else if (sign == 'N') {
                int n = Integer.parseInt(tokens.get(i));
                if (n < bounds[0] || n > bounds[1]) {
                    found(4, places.get(i));
                }
            }
        }
    }

    /** All tokens till what is none: where that is, or the text's length. */
    private int split(String text) {
        int at = 0;
        while (true) {
            Matcher blanks = BLANKS.matcher(text).region(at, text.length());
            at = blanks.lookingAt() ? blanks.end() : at;
            if (at == text.length()) {
                return at;
            }
            Matcher token = TOKEN.matcher(text).region(at, text.length());
            token.useTransparentBounds(true);
            if (!token.lookingAt()) {
                found(1, at);
                return at;
            }
            tokens.add(token.group());
            places.add(at);
            signs.append(signOf(token.group()));
            at = token.end();
        }
    }

    private static char signOf(String token) {
        for (int i = 0; i < WORDS.length; i++) {
            if (WORDS[i].equals(token)) {
                return SIGNS.charAt(i);
            }
        }
        return token.equals(";") ? ';' : Character.isDigit(token.charAt(0)) ? 'N' : 'n';
    }

    /** Whether the first so many tokens are the beginning of some kernel. */
    private boolean canStand(int n) {
        Matcher matcher = GRAMMAR.matcher(signs.substring(0, n));
        return matcher.matches() || matcher.hitEnd();
    }

    static String spoil(String good, Random r) {
        StringBuilder text = new StringBuilder(good);
        for (int times = r.nextInt(4); times > 0 && text.length() > 0; times--) {
            int at = r.nextInt(text.length());
            switch (r.nextInt(9)) {
                case 0: text.setCharAt(at, (char) r.nextInt(256)); break;
                case 1: text.setCharAt(at, "a0;1 z\n9".charAt(r.nextInt(8))); break;
                case 2: text.deleteCharAt(at); break;
                case 3: text.insert(at, "a0;1 z\n9".charAt(r.nextInt(8))); break;
                case 4: text.insert(at, " " + WORDS[r.nextInt(WORDS.length)] + " "); break;
                case 5: text.insert(at, " " + r.nextInt(r.nextBoolean() ? 12000 : 120) + " "); break;
                case 6: text.setLength(at + 1); break;
                case 7: replaceNumber(text, at, r); break;
                default: repeatLine(text, r);
            }
        }
        return text.toString();
    }

    private static void replaceNumber(StringBuilder text, int from, Random r) {
        Matcher number = Pattern.compile("[0-9]+").matcher(text);
        if (number.find(from)) {
            int[] some = {0, 1, 4, 5, 6, 7, 20, 21, 99, 100, 999, 1000, 9999, 10000};
            text.replace(number.start(), number.end(), Integer.toString(some[r.nextInt(some.length)]));
        }
    }

    /** One line stands a second time at the end, under another name or under its own. */
    private static void repeatLine(StringBuilder text, Random r) {
        String[] lines = text.toString().split(";");
        String line = lines.length == 0 ? "" : lines[r.nextInt(lines.length)];
        String name = "task " + (char) ('a' + r.nextInt(26)) + " ";
        text.append(r.nextBoolean() ? line : line.replaceFirst("task [a-z] ", name)).append(";");
    }
}
