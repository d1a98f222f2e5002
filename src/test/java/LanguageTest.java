import java.lang.management.ManagementFactory;
import java.lang.reflect.Array;
import java.lang.reflect.Constructor;
import java.lang.reflect.Field;
import java.lang.reflect.Method;
import java.lang.reflect.Modifier;
import java.nio.file.Files;
import java.nio.file.Path;
import java.util.ArrayDeque;
import java.util.ArrayList;
import java.util.Arrays;
import java.util.Collections;
import java.util.Deque;
import java.util.IdentityHashMap;
import java.util.List;
import java.util.Set;
import java.util.TreeSet;
import java.util.regex.Matcher;
import java.util.regex.Pattern;

/** What of LANGUAGE.md can be seen in the text, in the compiled class and in the room that calls take. */
public final class LanguageTest {
    private static final String[] FACE = {"room", "heat", "cooler", "machine", "feed", "net", "price", "store", "late",
        "odds", "house", "batch", "steady", "write", "erase", "fault", "minutes", "cell", "of", "work", "now",
        "placing", "without", "other", "fitted", "drill", "worst", "bill", "begin", "record", "forge", "check",
        "image", "from", "count", "digest"};
    private static final String[] RULED_OUT = {"\\bthrow\\b", "\\bthrows\\b", "\\btry\\b", "\\bcatch\\b",
        "\\bsynchronized\\b", "\\bassert\\b", "->", "::", "\\bdouble\\b", "\\bfloat\\b", "\\bvar\\b", "Exact\\b",
        "\\bstatic\\s*\\{", "\\bObject\\b", "\\bThread\\b", "\\bcurrentTimeMillis\\b", "\\bnanoTime\\b", "\\bRandom\\b",
        "\\bprotected\\b", "\\bBoolean\\b", "\\bLong\\b", "@\\w+"};
    private static final String[] LIBRARY = {"Math.max", "Math.min", "Math.floorMod", "Integer.bitCount",
        "Arrays.fill", "System.arraycopy"};

    private static final Due DUE = new Due();

    public static void main(String[] args) throws Exception {
        String text = withoutComments(Files.readString(Path.of("src/main/java/HotHall.java")));
        words(text);
        lengths(text);
        face();
        classes();
        roomOfOne();
        roomOfCalls();
        DUE.end();
    }

    private static String withoutComments(String text) {
        return text.replaceAll("(?s)/\\*.*?\\*/", "").replaceAll("//[^\n]*", "");
    }

    private static void words(String text) {
        DUE.part("words");
        for (String word : RULED_OUT) {
            Matcher m = Pattern.compile(word).matcher(text);
            DUE.holds(word + " does not stand in the text", !m.find());
        }
        Matcher m = Pattern.compile("\\b(Math|Integer|Arrays|System|List|String)\\.\\w+").matcher(text);
        while (m.find()) {
            DUE.holds(m.group() + " is in the library", Arrays.asList(LIBRARY).contains(m.group()));
        }
        m = Pattern.compile("(?m)^import (.*);").matcher(text);
        while (m.find()) {
            DUE.holds("import " + m.group(1), m.group(1).equals("java.util.Arrays"));
        }
        for (int i = 0; i < text.length(); i++) {
            char c = text.charAt(i);
            if (c > 126 || c < 32 && c != '\n') {
                DUE.holds("only plain signs, at " + i, false);
            }
        }
    }

    /** Methods stand four or eight deep and end with a brace that stands as deep. */
    private static void lengths(String text) {
        DUE.part("lengths");
        String[] lines = text.split("\n");
        for (int i = 0; i < lines.length; i++) {
            Matcher m = Pattern.compile("^( {4}| {8})(\\w.*)\\) \\{$").matcher(lines[i]);
            if (m.matches()) {
                int end = i;
                while (end < lines.length && !lines[end].equals(m.group(1) + "}")) {
                    end++;
                }
                DUE.holds(lines[i].trim() + " has " + (end - i) + " lines", end - i <= 60);
            }
        }
    }

    private static List<Class<?>> all() {
        List<Class<?>> all = new ArrayList<>(Arrays.asList(HotHall.class.getDeclaredClasses()));
        all.add(HotHall.class);
        return all;
    }

    private static void face() {
        DUE.part("face");
        DUE.holds("public and final", Modifier.isPublic(HotHall.class.getModifiers())
            && Modifier.isFinal(HotHall.class.getModifiers()));
        Set<String> found = new TreeSet<>();
        for (Method m : HotHall.class.getDeclaredMethods()) {
            if (Modifier.isPublic(m.getModifiers())) {
                found.add(m.getName());
            } else {
                DUE.holds(m.getName() + " is private", Modifier.isPrivate(m.getModifiers()));
            }
        }
        DUE.holds("the methods of the document", found.equals(new TreeSet<>(Arrays.asList(FACE))));
        int constants = 0;
        for (Field f : HotHall.class.getDeclaredFields()) {
            if (Modifier.isPublic(f.getModifiers())) {
                constants++;
            } else {
                DUE.holds(f.getName() + " is private", Modifier.isPrivate(f.getModifiers()));
            }
        }
        DUE.is("constants", constants, 4);
        Constructor<?>[] made = HotHall.class.getDeclaredConstructors();
        DUE.is("constructors", made.length, 1);
        for (Class<?> c : HotHall.class.getDeclaredClasses()) {
            for (Method m : c.getDeclaredMethods()) {
                DUE.holds(c.getSimpleName() + "." + m.getName() + " is no name of the face", !found.contains(m.getName()));
            }
        }
    }

    private static void classes() {
        DUE.part("classes");
        DUE.holds("some twelve", all().size() <= 12);
        for (Class<?> c : all()) {
            if (c != HotHall.class) {
                DUE.holds(c + " is static", Modifier.isStatic(c.getModifiers()));
                DUE.holds(c + " is final", Modifier.isFinal(c.getModifiers()));
            }
            int fields = 0;
            for (Field f : c.getDeclaredFields()) {
                if (Modifier.isStatic(f.getModifiers())) {
                    DUE.holds(f + " is final", Modifier.isFinal(f.getModifiers()));
                } else {
                    fields++;
                }
            }
            DUE.holds(c + " has " + fields + " fields", fields <= 20);
            for (Method m : c.getDeclaredMethods()) {
                DUE.holds(m + " takes at most seven", m.getParameterCount() <= 7);
            }
        }
    }

    /** Objects and arrays, fields and elements that one HotHall is made of. */
    private static void roomOfOne() throws Exception {
        DUE.part("room of one");
        Set<Object> seen = Collections.newSetFromMap(new IdentityHashMap<>());
        Deque<Object> left = new ArrayDeque<>();
        left.add(new HotHall());
        int parts = 0;
        while (!left.isEmpty()) {
            Object o = left.remove();
            if (!seen.add(o)) {
                continue;
            }
            if (o.getClass().isArray()) {
                parts += Array.getLength(o);
                for (int i = 0; i < Array.getLength(o) && !o.getClass().getComponentType().isPrimitive(); i++) {
                    left.add(Array.get(o, i));
                }
            } else {
                for (Field f : o.getClass().getDeclaredFields()) {
                    if (!Modifier.isStatic(f.getModifiers())) {
                        parts++;
                        f.setAccessible(true);
                        if (!f.getType().isPrimitive()) {
                            left.add(f.get(o));
                        }
                    }
                }
            }
        }
        System.out.println("one HotHall: " + seen.size() + " objects and arrays, " + parts + " fields and elements");
        DUE.holds("objects", seen.size() < 400);
        DUE.holds("fields and elements", parts < 6000);
    }

    private static void roomOfCalls() {
        DUE.part("room of calls");
        com.sun.management.ThreadMXBean bean = (com.sun.management.ThreadMXBean) ManagementFactory.getThreadMXBean();
        HotHall x = new HotHall();
        long sum = allCalls(x);
        bean.getCurrentThreadAllocatedBytes();
        long ahead = bean.getCurrentThreadAllocatedBytes();
        long none = bean.getCurrentThreadAllocatedBytes() - ahead;
        ahead = bean.getCurrentThreadAllocatedBytes();
        sum += allCalls(x);
        long made = bean.getCurrentThreadAllocatedBytes() - ahead;
        DUE.holds("no call makes an object (" + sum + ")", made <= none);
    }

    private static long allCalls(HotHall x) {
        long sum = x.room(90, 30, 80) + x.heat(2, 400) + x.cooler(2, 9, 100) + x.machine(3, 40, 30, 200, 1)
            + x.machine(3, 40, 30, 200, 1) + x.feed(1, 500) + x.net(900) + x.price(4, 60) + x.store(900, 50, 40)
            + x.late(1) + x.odds(1, 1, 5) + x.house(3, 4, 5, 6) + x.erase() + x.write('3') + x.write('-')
            + x.write('f') + x.fault();
        int now = (int) x.now(0);
        for (int i = 0; i < 4; i++) {
            sum += x.batch(i, 90, now + 30, -1) + x.steady(i, now, now + 20, 2, -1);
        }
        sum += x.begin() + x.image(0) + x.minutes(5) + x.cell(3, 0) + x.of(0, 0) + x.work(0, 0) + x.now(7)
            + x.placing(-1) + x.placing(0) + x.without(30) + x.other(5, 3, 30, 1) + x.fitted() + x.drill(0, 500, 50, 30)
            + x.worst(0) + x.bill(0) + x.record(0) + x.forge(0, 1) + x.check() + x.image(1) + x.from(0) + x.count(3)
            + x.digest();
        return sum;
    }
}
