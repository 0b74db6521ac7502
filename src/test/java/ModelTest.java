import java.lang.reflect.Method;
import java.util.ArrayList;
import java.util.List;
import java.util.Map;
import java.util.Random;

/** Runs of calls by chance, each asked of the class and of the plain model. */
public final class ModelTest {
    private static final List<Method> FACE = new ArrayList<>();
    /** How often more than once these are asked, as they have much to answer. */
    private static final Map<String, Integer> WEIGHTS = Map.of("town", 14, "round", 4, "shortcut", 2, "meet", 2,
        "count", 2, "lay", 2, "event", 2, "needed", 1, "road", 1, "change", 1);
    private final Random chance;
    private final int mostTowns;
    private final int span;
    private final KeptWays mine = new KeptWays();
    private final Model model = new Model();
    private final List<String> history = new ArrayList<>();

    private ModelTest(long seed, int mostTowns, int span) {
        this.chance = new Random(seed);
        this.mostTowns = mostTowns;
        this.span = span;
    }

    public static void main(String[] args) throws Exception {
        for (Method m : KeptWays.class.getDeclaredMethods()) {
            if (java.lang.reflect.Modifier.isPublic(m.getModifiers())) {
                FACE.add(m);
                for (int i = 0; i < WEIGHTS.getOrDefault(m.getName(), 0); i++) {
                    FACE.add(m);
                }
            }
        }
        FACE.sort(java.util.Comparator.comparing(Method::getName));
        int runs = args.length > 0 ? Integer.parseInt(args[0]) : 2000;
        long first = args.length > 1 ? Long.parseLong(args[1]) : 1;
        Checker checker = new Checker("ModelTest");
        int[] spans = {6, 12, 30, 1_000_000_000};
        for (long seed = first; seed < first + runs && checker.wrongSoFar() < 5; seed++) {
            ModelTest run = new ModelTest(seed, seed % 5 == 0 ? 12 : 3 + (int) (seed % 5), spans[(int) (seed / 5 % 4)]);
            checker.due("run by chance " + seed, run.go() ? 0 : 1, 0);
        }
        checker.end();
    }

    /** No step is of more than 32 calls, and an object is good for 512 of them. */
    private boolean go() throws Exception {
        for (int i = 0; i < 20 && history.size() <= 480; i++) {
            boolean same = switch (chance.nextInt(i == 0 ? 1 : 12)) {
                case 0 -> text("net", TextMaker.net(chance, mostTowns, span));
                case 1, 2 -> text("orders", TextMaker.orders(chance, model.count(0), model.count(1), span));
                case 3 -> checkParents();
                case 4 -> layMany();
                default -> some(12);
            };
            if (!same) {
                return false;
            }
        }
        return true;
    }

    private boolean some(int calls) throws Exception {
        for (int i = 0; i < calls; i++) {
            Method m = FACE.get(chance.nextInt(FACE.size()));
            if (m.getName().matches("feed|net|orders|check") && chance.nextInt(4) > 0) {
                continue;
            }
            if (!ask(m, arguments(m))) {
                return false;
            }
        }
        return true;
    }

    private boolean text(String how, String text) throws Exception {
        int n = Math.min(text.length(), 240);
        return empty() && feed(text.substring(0, n)) && ask(method(how), new Object[] {n});
    }

    private boolean empty() throws Exception {
        return ask(method("check"), new Object[] {0});
    }

    private boolean feed(String text) throws Exception {
        for (int at = 0; at < text.length(); at += 20) {
            Object[] ints = new Object[5];
            for (int i = 0; i < 5; i++) {
                ints[i] = Texts.four(text, at + 4 * i);
            }
            if (!ask(method("feed"), ints)) {
                return false;
            }
        }
        return true;
    }

    /** Few towns with many roads, up to all that there may be. */
    private boolean layMany() throws Exception {
        int many = model.count(0) <= 4 ? chance.nextInt(20) : chance.nextInt(5);
        for (int i = 0; i < many; i++) {
            int from = chance.nextInt(model.count(0));
            int to = (from + 1 + chance.nextInt(model.count(0) - 1)) % model.count(0);
            if (!ask(method("lay"), new Object[] {from, to, chance.nextInt(span)})) {
                return false;
            }
        }
        return true;
    }

    private boolean checkParents() throws Exception {
        StringBuilder bytes = new StringBuilder();
        int n = chance.nextInt(model.count(0) + 2);
        for (int t = 0; t < n; t++) {
            long p = model.town(t, 1);
            bytes.append((char) (p < 0 || chance.nextInt(12) == 0 ? 255 : p));
        }
        return empty() && feed(bytes.toString()) && ask(method("check"), new Object[] {Math.min(n, 12)});
    }

    private static Method method(String name) {
        return FACE.stream().filter(m -> m.getName().equals(name)).findFirst().orElseThrow();
    }

    private Object[] arguments(Method m) {
        int n = model.count(0);
        int roads = model.count(1);
        String shape = switch (m.getName()) {
            case "lay" -> "ttl";
            case "length", "ifLength" -> "rl";
            case "close", "open" -> "r";
            case "origin", "forget" -> "t";
            case "count" -> "D";
            case "road" -> "r5";
            case "change" -> "r2";
            case "town" -> "tF";
            case "way", "free" -> "t3";
            case "hops" -> "th";
            case "needed", "without" -> "rt";
            case "touched" -> "3";
            case "between", "through" -> "tt";
            case "meet" -> "b3";
            case "round" -> "b6";
            case "shortcut" -> "l2";
            case "mean" -> "1";
            case "watch" -> "tl";
            case "event" -> "e3";
            case "drawn" -> "dt";
            case "seed" -> "s";
            case "net", "orders", "check" -> "h";
            case "feed" -> "sssss";
            default -> "";
        };
        Object[] out = new Object[shape.length()];
        for (int i = 0; i < out.length; i++) {
            out[i] = argument(shape.charAt(i), n, roads);
        }
        return out;
    }

    private int argument(char kind, int n, int roads) {
        if (chance.nextInt(60) == 0) {
            int[] odd = {-1, -2, Integer.MIN_VALUE, Integer.MAX_VALUE, 1_000_000_001, -1_000_000_001, 12, 36, 65536, 1 << 12};
            return odd[chance.nextInt(odd.length)];
        }
        return switch (kind) {
            case 't' -> chance.nextInt(chance.nextInt(15) == 0 ? n + 1 : n);
            case 'r' -> chance.nextInt(chance.nextInt(15) == 0 || roads == 0 ? roads + 1 : roads);
            case 'l' -> TextMaker.length(chance, span);
            case '1', '2', '3', '5', '6', 'D', 'F' -> chance.nextInt(1 + Character.digit(kind, 16) + (chance.nextInt(15) == 0 ? 1 : 0));
            case 'h' -> chance.nextInt(8) == 0 ? chance.nextInt(40) : chance.nextInt(6);
            case 'b' -> chance.nextInt((1 << n) + (chance.nextInt(10) == 0 ? 8 : 0));
            case 'e' -> chance.nextInt(model.count(8) + 1);
            case 'd' -> chance.nextInt(20) == 0 ? chance.nextInt(65) - 2 : 1 + chance.nextInt(6);
            default -> chance.nextInt(65540);
        };
    }

    private boolean ask(Method m, Object[] args) throws Exception {
        String call = m.getName() + java.util.Arrays.toString(args).replace('[', '(').replace(']', ')');
        long got = number(m.invoke(mine, args));
        long want = number(Model.class.getMethod(m.getName(), m.getParameterTypes()).invoke(model, args));
        history.add(call + " = " + want);
        if (got != want) {
            System.out.println(String.join("\n", history));
            System.out.println("but answered " + got);
        }
        return got == want;
    }

    private static long number(Object o) {
        return o instanceof Boolean b ? (b ? 1 : 0) : ((Number) o).longValue();
    }
}
