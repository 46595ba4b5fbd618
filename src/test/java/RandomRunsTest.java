import java.lang.reflect.InvocationTargetException;
import java.lang.reflect.Method;
import java.lang.reflect.Modifier;
import java.nio.charset.StandardCharsets;
import java.util.ArrayList;
import java.util.Comparator;
import java.util.List;
import java.util.Map;
import java.util.Random;

/** Runs of 512 random calls: the class answers, and throws, what the slow model does. */
public final class RandomRunsTest {
    private static final int RUNS = 150;
    private static final int CALLS = 512;
    private static final List<String> RARE = List.of("feed", "end", "bog", "law", "back", "net", "trunks", "likely",
            "probe", "falls", "ask");
    /** What numbers a call is given: cells, hearths, days, whats, few, suns, sets, trades. */
    private static final Map<String, String> MEANT = Map.ofEntries(Map.entry("cell", "cw"), Map.entry("hearth", "hf"),
            Map.entry("days", "d"), Map.entry("cut", "hc"), Map.entry("foot", "c"), Map.entry("cart", "hc"),
            Map.entry("dig", "c"), Map.entry("block", "c"), Map.entry("right", "hc?"), Map.entry("trade", "hht"),
            Map.entry("sky", "s?"), Map.entry("placed", "H"), Map.entry("last", "m"), Map.entry("spit", "m"),
            Map.entry("hag", "c"), Map.entry("far", "cc"), Map.entry("pairs", "H"), Map.entry("rests", "hh"),
            Map.entry("odds", "ff"), Map.entry("staged", "f"), Map.entry("ahead", "cdf"), Map.entry("trial", "d?"),
            Map.entry("span", "d?"), Map.entry("led", "h?"), Map.entry("log", "ff"), Map.entry("count", "w"));

    private final Random random;
    private final TurfBog bog = new TurfBog();
    private final Model model = new Model();
    private final StringBuilder story = new StringBuilder();
    private final List<Method> methods;
    private int calls = 0;

    private RandomRunsTest(int seed, List<Method> methods) {
        random = new Random(seed);
        this.methods = methods;
    }

    public static void main(String[] args) throws ReflectiveOperationException {
        List<Method> methods = new ArrayList<>();
        for (Method m : TurfBog.class.getDeclaredMethods()) {
            if (Modifier.isPublic(m.getModifiers())) {
                methods.add(m);
            }
        }
        methods.sort(Comparator.comparing(Method::getName));
        for (int seed = 0; seed < RUNS; seed++) {
            if (!new RandomRunsTest(seed, methods).run()) {
                Check.due("run " + seed, 0, 1);
                break;
            }
            Check.due("run " + seed, 1, 1);
        }
        Check.finish();
    }

    private int pick(int bound) {
        return random.nextInt(bound);
    }

    private boolean run() throws ReflectiveOperationException {
        boolean same = tell("bog", richText()) && tell("bog", bogText(8)) && tell("law", lawText());
        while (same && calls < CALLS) {
            same = switch (pick(40)) {
                case 0 -> tell("bog", spoilt(bogText(14)));
                case 1 -> tell("law", pick(2) == 0 ? lawText() : spoilt(lawText()));
                case 2 -> tell(List.of("net", "trunks", "likely", "probe", "falls", "ask").get(pick(6)), rows());
                case 3 -> pick(2) == 0 ? tell(List.of("trunks", "likely", "probe").get(pick(3)), trunkRows())
                        : tell(List.of("falls", "ask").get(pick(2)), fallRows());
                case 4 -> call(methods.get(pick(methods.size())));
                case 5, 6, 7, 8 -> callNamed(List.of("cut", "cart", "foot", "days", "undo").get(pick(5)));
                case 9, 10, 11, 12 -> callNamed(List.of("cell", "hearth", "log", "count", "led").get(pick(5)));
                default -> callOften(methods.get(pick(methods.size())));
            };
        }
        if (!same) {
            System.out.println(story);
        }
        return same;
    }

    private boolean callNamed(String name) throws ReflectiveOperationException {
        for (Method m : methods) {
            if (m.getName().equals(name)) {
                return call(m);
            }
        }
        return false;
    }

    /** Not those that would empty the tape, or go back, too often. */
    private boolean callOften(Method method) throws ReflectiveOperationException {
        return RARE.contains(method.getName()) || call(method);
    }

    private boolean tell(String name, byte[] bytes) throws ReflectiveOperationException {
        boolean same = step("end", new Object[] {0});
        for (int at = 0; at < bytes.length && same; at += 20) {
            same = step("feed", new Object[] {Check.number(bytes, at), Check.number(bytes, at + 4),
                Check.number(bytes, at + 8), Check.number(bytes, at + 12), Check.number(bytes, at + 16)});
        }
        story.append("  '").append(new String(bytes, StandardCharsets.ISO_8859_1)).append("'\n");
        same = same && step("end", new Object[] {bytes.length});
        Object[] args = name.equals("falls") ? new Object[] {random.nextBoolean()} : new Object[0];
        return same && step(name, args) && step("fault", new Object[0]);
    }

    private boolean call(Method method) throws ReflectiveOperationException {
        Class<?>[] kinds = method.getParameterTypes();
        String meant = MEANT.getOrDefault(method.getName(), "?????");
        Object[] args = new Object[kinds.length];
        for (int i = 0; i < args.length; i++) {
            args[i] = kinds[i] == boolean.class ? (Object) random.nextBoolean() : (Object) number(meant.charAt(i));
        }
        return step(method.getName(), args);
    }

    private int number(char meant) {
        int any = pick(25);
        if (any == 0) {
            return pick(8) - 4;
        }
        if (any == 1) {
            return random.nextInt();
        }
        return switch (meant) {
            case 'c' -> pick(pick(20) == 0 ? 27 : 25);
            case 'h' -> pick(pick(9) == 0 ? 8 : 3);
            case 'H' -> pick(4) - 1;
            case 'd' -> pick(pick(3) == 0 ? 63 : 9);
            case 'w' -> pick(18);
            case 'f' -> pick(6);
            case 's' -> pick(11);
            case 'm' -> pick(1 << 25) & (pick(2) == 0 ? pick(1 << 25) & pick(1 << 25) : -1);
            case 't' -> pick(pick(9) == 0 ? 1100 : 30);
            default -> pick(60);
        };
    }

    private boolean step(String name, Object[] args) throws ReflectiveOperationException {
        // Nothing is promised beyond that many calls.
        if (calls >= CALLS) {
            return true;
        }
        calls++;
        String got = answer(bog, TurfBog.class, name, args);
        String want = answer(model, Model.class, name, args);
        story.append(name).append(java.util.Arrays.toString(args)).append(" = ").append(got);
        story.append(got.equals(want) ? "\n" : ", the model: " + want + "\n");
        return got.equals(want);
    }

    private static String answer(Object on, Class<?> kind, String name, Object[] args)
            throws ReflectiveOperationException {
        for (Method m : kind.getDeclaredMethods()) {
            if (m.getName().equals(name) && m.getParameterCount() == args.length && !Modifier.isPrivate(m.getModifiers())) {
                m.setAccessible(true);
                try {
                    return String.valueOf(m.invoke(on, args));
                } catch (InvocationTargetException e) {
                    return "throws." + e.getCause().getClass().getName();
                }
            }
        }
        throw new IllegalStateException(name);
    }

    // ---- texts ----

    private String cells(int most) {
        StringBuilder b = new StringBuilder();
        for (int i = pick(most); i >= 0; i--) {
            b.append(' ').append(pick(25));
        }
        return b.toString();
    }

    private String row(int least, int most) {
        StringBuilder b = new StringBuilder();
        int first = pick(25);
        b.append(first);
        for (int i = pick(25 - first); i >= 0; i--) {
            b.append(' ').append(least + pick(most - least + 1));
        }
        return b.toString();
    }

    private String bogLine() {
        return switch (pick(14)) {
            case 0, 1 -> "peat 0" + " 1 3 9 0 2 1 5".repeat(3).substring(0, 2 * (1 + pick(20)));
            case 2 -> "peat " + row(0, 9);
            case 3 -> "water " + row(0, 4);
            case 4 -> "water " + row(2, 9);
            case 5 -> "drain 24 " + (pick(2) == 0 ? "19" : "23") + cells(5);
            case 6, 7 -> "turves " + pick(25) + " " + (1 + pick(99)) + (pick(2) == 0 ? " dry " + pick(100) : "");
            case 8, 9 -> "hearth hands " + (1 + pick(9)) + " need " + pick(100)
                    + (pick(2) == 0 ? " store " + pick(pick(2) == 0 ? 1000 : 40) : "");
            case 10 -> "right " + pick(pick(3) == 0 ? 6 : 3) + cells(6);
            case 11 -> pick(2) == 0 ? "sun " + pick(10) : "rain";
            case 12 -> "shower " + pick(101);
            default -> "day " + pick(1000);
        };
    }

    /** A bog in which much can be cut, footed and carted. */
    private byte[] richText() {
        StringBuilder b = new StringBuilder("peat 0");
        for (int c = 0; c < 25; c++) {
            b.append(' ').append(pick(5) == 0 ? 0 : pick(10));
        }
        b.append(";water 0");
        for (int c = 0; c < 25; c++) {
            b.append(' ').append(pick(3) == 0 ? pick(10) : pick(3));
        }
        for (int i = pick(5); i > 0; i--) {
            b.append(";hearth hands ").append(1 + pick(9)).append(" need ").append(pick(100)).append(" store ")
                    .append(pick(90));
        }
        b.append(";hearth hands 3 need 40;right 0").append(cells(8));
        for (int i = pick(4); i > 0; i--) {
            b.append(";right ").append(pick(2)).append(cells(4));
        }
        for (int i = pick(5); i > 0; i--) {
            b.append(";turves ").append(pick(25)).append(' ').append(1 + pick(99)).append(" dry ").append(20 + pick(80));
        }
        return cutOff(b);
    }

    private byte[] bogText(int lines) {
        StringBuilder b = new StringBuilder("hearth hands 3 need 40;hearth hands 3 need 40 store 12; right 0 1 2 7 8;");
        b.append("right 1 2 3 8");
        if (pick(3) != 0) {
            b.setLength(0);
            b.append("day 3");
        }
        for (int i = pick(lines); i > 0; i--) {
            b.append(pick(4) == 0 ? " ; " : ";").append(bogLine());
        }
        return cutOff(b);
    }

    private String condition(int deep) {
        return switch (pick(deep > 5 ? 4 : 9)) {
            case 0 -> List.of("drained", "rain", "laid").get(pick(3));
            case 1, 2, 3 -> sum() + (pick(2) == 0 ? "<" : " > ") + sum();
            case 4 -> "not " + condition(deep + 1);
            case 5 -> "(" + condition(deep + 1) + " )";
            case 6, 7 -> condition(deep + 1) + " or " + condition(deep + 2);
            default -> condition(deep + 1) + " and " + condition(deep + 2);
        };
    }

    private String sum() {
        String part = pick(2) == 0 ? String.valueOf(pick(pick(4) == 0 ? 1000 : 10))
                : List.of("cell", "x", "y", "depth", "water", "turves", "sun").get(pick(7));
        return pick(3) == 0 ? part + "+" + sum() : part;
    }

    private byte[] lawText() {
        StringBuilder b = new StringBuilder();
        for (int i = pick(9); i >= 0; i--) {
            b.append(List.of("dry", "soak", "sink").get(pick(3))).append(' ').append(pick(21));
            b.append(pick(3) == 0 ? "" : " if " + condition(pick(3))).append(i > 0 ? ";" : "");
        }
        return cutOff(b);
    }

    private static byte[] cutOff(StringBuilder b) {
        b.setLength(Math.min(400, b.length()));
        return b.toString().getBytes(StandardCharsets.ISO_8859_1);
    }

    private byte[] spoilt(byte[] text) {
        for (int i = pick(3); i > 0 && text.length > 0; i--) {
            text[pick(text.length)] = (byte) (pick(3) == 0 ? pick(256) : " ;(0)+<9anor".charAt(pick(12)));
        }
        return pick(5) == 0 ? java.util.Arrays.copyOf(text, pick(text.length + 1)) : text;
    }

    /** Rows of some trunk, of which now and then one is wrong. */
    private byte[] trunkRows() {
        int begin = pick(25);
        int step = List.of(1, 5, 6, 4).get(pick(4));
        int length = 2 + pick(4);
        byte[] told = new byte[2 * pick(12)];
        for (int i = 0; i < told.length; i += 2) {
            int cell = pick(3) == 0 ? pick(25) : (begin + step * pick(length + 1)) % 25;
            boolean hit = cell >= begin && (cell - begin) % step == 0 && cell < begin + step * length;
            told[i] = (byte) cell;
            told[i + 1] = (byte) (hit == (pick(15) > 0) ? 1 : 0);
        }
        return told;
    }

    private byte[] fallRows() {
        int first = pick(10);
        int pace = 1 + pick(20);
        int least = pick(first + 1);
        byte[] told = new byte[2 * pick(6)];
        for (int i = 0; i < told.length; i += 2) {
            int day = pick(pick(2) == 0 ? 100 : 20);
            told[i] = (byte) day;
            told[i + 1] = (byte) Math.max(first - day / pace, least);
        }
        return told;
    }

    private byte[] rows() {
        byte[] told = new byte[pick(6) == 0 ? pick(44) : 2 * pick(4)];
        boolean spoil = pick(12) == 0;
        for (int i = 0; i < told.length; i++) {
            told[i] = (byte) (spoil ? pick(256) : pick(i % 2 == 0 ? 25 : 2));
        }
        return told;
    }
}
