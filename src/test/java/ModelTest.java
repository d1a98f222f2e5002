import java.lang.reflect.Method;
import java.lang.reflect.Modifier;
import java.util.ArrayList;
import java.util.Arrays;
import java.util.Comparator;
import java.util.List;
import java.util.Random;

/** Random runs of calls on a HotHall and on a Model: each answer must be the same. */
public final class ModelTest {
    private static final int RUNS = 500;
    /** With the digests between them no more than the 512 that an object is used for. */
    private static final int CALLS = 440;
    private static final String SIGNS = "gpswmf0123456789|&<>=+-*/!() ";
    private static final String[] TEXTS = {"3-(g>100)*3", "3-g/150", "w&2|p<20", "(s>10)+(p<11)+1", "m/3-m/6*2",
        "3-f", "!(g>300)*3", "- -2", "((((((((3))))))))", "(((((((((3)))))))))", "1<2<3", "1234567", "3 -( w > 2 )",
        "g>50&p<20|m=4", "s*1000000/g", "3*(m-m/2*2)", "2=2=2", "1&2=2&1|0", "1 2", "!!!!!!w", "-g/0+2", "3)"};

    private final Random random;
    private final int style;
    private final List<String> told = new ArrayList<>();

    private ModelTest(long seed) {
        random = new Random(seed);
        style = random.nextInt(4);
    }

    public static void main(String[] args) throws Exception {
        int wrong = 0;
        int first = args.length > 0 ? Integer.parseInt(args[0]) : 0;
        int runs = args.length > 1 ? Integer.parseInt(args[1]) : RUNS;
        for (int seed = first; seed < first + runs && wrong < 3; seed++) {
            if (!new ModelTest(seed).run(seed)) {
                wrong++;
            }
        }
        System.out.println(wrong == 0 ? runs + " runs are as the model's" : wrong + " runs are not as the model's");
        if (wrong != 0) {
            System.exit(1);
        }
    }

    private static List<Method> face() {
        List<Method> face = new ArrayList<>();
        for (Method m : HotHall.class.getDeclaredMethods()) {
            if (Modifier.isPublic(m.getModifiers())) {
                face.add(m);
            }
        }
        face.sort(Comparator.comparing(Method::getName));
        return face;
    }

    private boolean run(int seed) throws Exception {
        HotHall hall = new HotHall();
        Model model = new Model();
        List<Method> face = face();
        List<Object[]> ahead = style == 3 ? new ArrayList<>() : start();
        for (int i = 0; i < CALLS; i++) {
            String name;
            Object[] row;
            if (!ahead.isEmpty()) {
                Object[] next = ahead.remove(0);
                name = (String) next[0];
                row = Arrays.copyOfRange(next, 1, next.length);
            } else if (random.nextInt(60) == 0) {
                ahead.addAll(text());
                continue;
            } else {
                Method m = face.get(random.nextInt(face.size()));
                name = random.nextInt(6) == 0 ? "minutes" : m.getName();
                row = row(name, (int) model.now(0));
            }
            Method ours = find(HotHall.class, name);
            Method theirs = find(Model.class, name);
            Object got = ours.invoke(hall, row);
            Object want = theirs.invoke(model, row);
            told.add(name + Arrays.toString(row) + " = " + want);
            boolean same = got.equals(want);
            if (same && i % 7 == 0) {
                same = hall.digest() == model.digest();
                told.add("digest");
            }
            if (!same) {
                System.out.println("seed " + seed + ", call " + i + ": answered " + got + "; " + String.join("; ", told));
                return false;
            }
        }
        return true;
    }

    private static Method find(Class<?> type, String name) {
        for (Method m : type.getDeclaredMethods()) {
            if (m.getName().equals(name) && Modifier.isPublic(m.getModifiers())) {
                return m;
            }
        }
        throw new IllegalArgumentException(name);
    }

    /** A hall with some machines and works, so that most of what follows has something to do. */
    private List<Object[]> start() {
        List<Object[]> calls = new ArrayList<>();
        int machines = 1 + random.nextInt(6);
        for (int i = 0; i < machines; i++) {
            calls.add(call("machine", random.nextInt(12), random.nextInt(60), random.nextInt(60),
                1 + random.nextInt(400), random.nextInt(2)));
        }
        for (int i = 0; i < 4; i++) {
            calls.add(call("house", i, random.nextInt(3), random.nextInt(100), random.nextInt(100)));
        }
        int works = 1 + random.nextInt(7);
        for (int i = 0; i < works; i++) {
            int pin = random.nextInt(3) == 0 ? random.nextInt(machines) : -1;
            if (random.nextBoolean()) {
                calls.add(call("batch", random.nextInt(4), 1 + random.nextInt(40), random.nextInt(25), pin));
            } else {
                int from = random.nextInt(8);
                calls.add(call("steady", random.nextInt(4), from, from + random.nextInt(9), 1 + random.nextInt(3), pin));
            }
        }
        if (style == 1) {
            calls.add(call("odds", random.nextInt(30), random.nextInt(10), random.nextInt()));
        }
        if (style == 2) {
            calls.add(call("net", random.nextInt(300)));
            calls.add(call("store", random.nextInt(500), random.nextInt(90), random.nextInt(20)));
            calls.add(call("feed", 0, random.nextInt(300)));
        }
        calls.add(call("begin"));
        return calls;
    }

    private List<Object[]> text() {
        List<Object[]> calls = new ArrayList<>();
        calls.add(call("erase"));
        StringBuilder text = new StringBuilder();
        if (random.nextBoolean()) {
            text.append(TEXTS[random.nextInt(TEXTS.length)]);
        } else {
            int length = random.nextInt(20);
            for (int i = 0; i < length; i++) {
                text.append(SIGNS.charAt(random.nextInt(SIGNS.length())));
            }
        }
        for (int i = 0; i < text.length(); i++) {
            calls.add(call("write", (int) text.charAt(i)));
        }
        calls.add(call("fault"));
        return calls;
    }

    private static Object[] call(Object... row) {
        return row;
    }

    private Object[] row(String name, int minute) {
        int[] most = most(name);
        Object[] row = new Object[most.length];
        for (int i = 0; i < most.length; i++) {
            row[i] = number(most[i]);
        }
        if (name.equals("batch") || name.equals("steady")) {
            row[row.length - 1] = random.nextInt(3) == 0 ? number(4) : (Object) (-1);
        }
        if (name.equals("batch")) {
            row[2] = minute + number(20);
        }
        if (name.equals("steady")) {
            row[1] = minute + number(6);
            row[2] = minute + 2 + number(12);
        }
        if (name.equals("placing") && random.nextInt(3) == 0) {
            row[0] = -1;
        }
        if (name.equals("other") && random.nextInt(3) == 0) {
            row[1] = -(Integer) row[1];
        }
        if (name.equals("forge")) {
            row[1] = random.nextBoolean() ? (Object) random.nextLong() : (Object) (long) random.nextInt(9);
        }
        if (name.equals("write") && random.nextInt(20) != 0) {
            row[0] = (int) SIGNS.charAt(random.nextInt(SIGNS.length()));
        }
        return row;
    }

    private int number(int most) {
        switch (random.nextInt(40)) {
            case 0: return -1;
            case 1: return most + 1;
            case 2: return most;
            case 3: return random.nextInt();
            case 4: return random.nextBoolean() ? Integer.MAX_VALUE : Integer.MIN_VALUE;
            case 5: return 0;
            default: return most < 0 ? -1 : random.nextInt(most + 1);
        }
    }

    /** Mostly near what makes something happen. */
    private int[] most(String name) {
        switch (name) {
            case "room": return new int[] {500, 200, 200};
            case "heat": return new int[] {11, random.nextBoolean() ? 900 : 100000};
            case "cooler": return new int[] {11, 200, 500};
            case "machine": return new int[] {11, 100, 100, 500, 3};
            case "feed": return new int[] {3, 600};
            case "net": return new int[] {random.nextBoolean() ? 500 : 100000};
            case "price": return new int[] {23, 40};
            case "store": return new int[] {900, 200, 40};
            case "late": return new int[] {5};
            case "odds": return new int[] {style == 1 ? 10 : 2, style == 1 ? 3 : 0, 9999};
            case "house": return new int[] {7, 3, 1000, 1000};
            case "batch": return new int[] {7, 30, 20, 5};
            case "steady": return new int[] {7, 5, 5, 3, 5};
            case "write": return new int[] {127};
            case "minutes": return new int[] {random.nextInt(5) == 0 ? 12 : 2};
            case "cell": return new int[] {11, 1};
            case "of": return new int[] {9, 4};
            case "work": return new int[] {15, 4};
            case "now": return new int[] {7};
            case "placing": return new int[] {15};
            case "without": return new int[] {12};
            case "other": return new int[] {5, random.nextBoolean() ? 11 : 400, 20, 1};
            case "drill": return new int[] {3, 500, 500, 15};
            case "worst": return new int[] {1};
            case "bill": return new int[] {7};
            case "record": return new int[] {40};
            case "forge": return new int[] {40, 0};
            case "image": return new int[] {1};
            case "from": return new int[] {1};
            case "count": return new int[] {6};
            default: return new int[0];
        }
    }
}
