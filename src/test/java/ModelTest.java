import java.lang.reflect.Method;
import java.lang.reflect.Modifier;
import java.util.ArrayList;
import java.util.Arrays;
import java.util.Comparator;
import java.util.List;
import java.util.Random;

/** Runs by chance, each call with mostly fitting arguments, answered by the class and by the model. */
public final class ModelTest {
    private static final int RUNS = 1500;
    private static final int CALLS = 512;
    private static final String[] TEXTS = {"s", "s+1", "s*(i<2)+m", "n-i", "(s=60)*3+s", "!s", "s+i*m", "60+s%40", "o", "h", "o+b*4-2",
        "h-b", "(o+h)/2", "o+b*2-1+(t%3=0)", "s+", "12345", "((((((s))))))", "!!!!!!o", "o-b*", "1<2<3", "s|i&n", "o*o", "99-s",
        "9999*9999*s", "s/0", "h%0", "(s", "s)", "0-7/2", "t", "20-t*(1-b*2)", "b*38-19"};

    private final Random random;
    private final GorgeRocks x = new GorgeRocks();
    private final Model model = new Model();
    private final List<String> done = new ArrayList<>();

    private ModelTest(int run) {
        random = new Random(run);
    }

    public static void main(String[] args) throws ReflectiveOperationException {
        List<Method> face = new ArrayList<>();
        for (Method method : GorgeRocks.class.getDeclaredMethods()) {
            if (Modifier.isPublic(method.getModifiers())) {
                face.add(method);
            }
        }
        face.sort(Comparator.comparing(Method::getName));
        for (int run = 0; run < RUNS; run++) {
            if (!new ModelTest(run).agrees(face)) {
                System.exit(1);
            }
        }
        System.out.println(RUNS + " runs of " + CALLS + " calls are as the model's");
    }

    private boolean agrees(List<Method> face) throws ReflectiveOperationException {
        int calls = 0;
        while (calls < CALLS) {
            int kind = random.nextInt(40);
            if (kind == 0 && calls < CALLS - 70) {
                calls += feedText(face);
                continue;
            }
            Method method = face.get(random.nextInt(face.size()));
            if (calls < 40 && kind < 30) {
                method = byName(face, new String[] {"call", "rock", "sound", "sound", "draw", "tell"}[random.nextInt(6)]);
            } else if (kind < 4) {
                method = byName(face, "sound");
            }
            if (!agrees(method, argumentsOf(method))) {
                return false;
            }
            calls++;
        }
        return true;
    }

    private static Method byName(List<Method> face, String name) {
        for (Method method : face) {
            if (method.getName().equals(name)) {
                return method;
            }
        }
        throw new IllegalStateException(name);
    }

    private int feedText(List<Method> face) throws ReflectiveOperationException {
        String text = random.nextInt(3) == 0 ? anyText() : TEXTS[random.nextInt(TEXTS.length)];
        int calls = 0;
        for (int i = 0; i < text.length(); i += 8) {
            String part = text.substring(i, Math.min(text.length(), i + 8));
            long word = random.nextLong();
            word = part.length() == 8 ? 0 : word << 8 * part.length();
            for (int k = 0; k < part.length(); k++) {
                word |= (long) part.charAt(k) << 8 * k;
            }
            require(byName(face, "feed"), word, part.length());
            calls++;
        }
        require(byName(face, "text"), random.nextInt(2));
        return calls + 1;
    }

    private String anyText() {
        StringBuilder b = new StringBuilder();
        String signs = "sinmohbt019(((()))!!!+-*/%<=>&|";
        int n = random.nextInt(12);
        for (int i = 0; i < n; i++) {
            b.append(signs.charAt(random.nextInt(signs.length())));
        }
        return b.toString();
    }

    private void require(Method method, Object... given) throws ReflectiveOperationException {
        if (!agrees(method, given)) {
            System.exit(1);
        }
    }

    private boolean agrees(Method method, Object[] given) throws ReflectiveOperationException {
        long word = 0;
        List<Integer> ints = new ArrayList<>();
        for (Object one : given) {
            if (one instanceof Long) {
                word = (Long) one;
            } else {
                ints.add((Integer) one);
            }
        }
        int due = model.act(method.getName(), word, ints.stream().mapToInt(Integer::intValue).toArray());
        int got = (Integer) method.invoke(x, given);
        done.add(method.getName() + Arrays.toString(given) + " " + got);
        if (due != got) {
            System.out.println(String.join("\n", done));
            System.out.println("the model answered " + due);
        }
        return due == got;
    }

    private Object[] argumentsOf(Method method) {
        String[] kinds = KindsOfArguments.of(method.getName());
        Object[] given = new Object[kinds.length];
        for (int i = 0; i < kinds.length; i++) {
            given[i] = argument(kinds[i]);
        }
        return given;
    }

    private int upTo(int most) {
        return random.nextInt(25) == 0 ? random.nextInt(4) - 2 + (random.nextBoolean() ? most : 0) : random.nextInt(most + 1);
    }

    private Object argument(String kind) {
        int calls = Math.max(0, model.w.calls.size() - 1);
        int rocks = Math.max(0, model.w.rocks.size() - 1);
        switch (kind) {
            case "call": return upTo(random.nextInt(3) == 0 ? calls : Math.min(2, calls));
            case "rock": return upTo(rocks);
            case "way": return way(rocks + 1);
            case "sound": return upTo(random.nextInt(3) == 0 ? 99 : random.nextBoolean() ? 6 : 53);
            case "place": return upTo(random.nextInt(3) == 0 ? 12 : 2) - 1;
            case "any": return random.nextInt(3) == 0 ? random.nextInt() : random.nextInt(41) - 20;
            case "word": return random.nextLong();
            case "set": return upTo(1048575);
            case "bits": return new int[] {0, 8, 8, 8, 16, 16, 32, 7}[random.nextInt(8)];
            case "ab": return random.nextInt(20) == 0 ? random.nextInt(5000) - 100 : random.nextInt(40) * 100 + random.nextInt(40);
            default: return upTo(Integer.parseInt(kind));
        }
    }

    private int way(int rocks) {
        int way = 0;
        int n = random.nextInt(5);
        for (int i = 0; i < n; i++) {
            way = way * 10 + 1 + random.nextInt(rocks);
        }
        return random.nextInt(30) == 0 ? random.nextInt(20000) - 1000 : way;
    }

    /** Of which kind each argument of an act is; a number is the most that fits. */
    private static final class KindsOfArguments {
        private static final String ALL = "call: sound:call,sound soundOf:call,place hush:call draw:call,12 contrary:sound rock:69,20"
            + " rockIs:rock,2 as:rock,6 set:rock,2,6 feed:word,8 text:1 untell:1 heard:call,way,place self:call,way takes:way"
            + " echo:call,way,call which:call,call ways:call,call,2 need:call,way,place meant:call,2 place:call,2,1 safe:call,1"
            + " part:call,way,way reads:call so:set says:call,way shout:call,rock seconds:20 log:7,place bargain:ab,way,way,60,3"
            + " seed:any voice:rock,3,any body:8 sheet:3,bits,24 put:3,12,sound move:3,8,3,8,8 sounds:3,call image: restore:"
            + " tell:sound check:call,way count:9 told:7";

        static String[] of(String name) {
            for (String entry : ALL.split(" ")) {
                if (entry.startsWith(name + ":")) {
                    String kinds = entry.substring(name.length() + 1);
                    return kinds.isEmpty() ? new String[0] : kinds.split(",");
                }
            }
            throw new IllegalStateException(name);
        }
    }
}
