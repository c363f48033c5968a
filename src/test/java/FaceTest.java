import java.lang.management.ManagementFactory;
import java.lang.reflect.Constructor;
import java.lang.reflect.Field;
import java.lang.reflect.Method;
import java.lang.reflect.Modifier;
import java.util.Arrays;
import java.util.HashSet;
import java.util.List;
import java.util.Set;
import java.util.TreeSet;

/** The document's face (LANGUAGE.md, rule 1), and the room that calls take. */
public final class FaceTest {
    private static final List<String> METHODS = List.of("put(int,int)", "change(int,int)", "take(int)", "style(int,int)",
        "ofLine(int,int)", "opener(int,int)", "unlike(int)", "see(int,int)", "fits(int,int,int,int)",
        "score(int,int,int,int,int)", "guess(int)", "follow()", "pocket(int,int,int)", "store(int,int,int)",
        "copy(int,int)", "ofPocket(int,int,int)", "many(int)");

    public static void main(String[] args) {
        constants();
        methods();
        nestedClasses();
        room();
        Due.finish();
    }

    private static void constants() {
        Due.due("UNKNOWN", IndentRules.UNKNOWN, -1);
        Due.due("OUTSIDE", IndentRules.OUTSIDE, -2);
        Due.due("STATE", IndentRules.STATE, -3);
        Due.due("FULL", IndentRules.FULL, -4);
        Due.due("NONE", IndentRules.NONE, -9);
        Due.due("KIND", IndentRules.KIND, -11);
        Due.due("INDEX", IndentRules.INDEX, -13);
        Set<String> names = new TreeSet<>();
        for (Field field : IndentRules.class.getDeclaredFields()) {
            if (!Modifier.isPrivate(field.getModifiers())) {
                names.add(field.getName());
            }
            if (Modifier.isStatic(field.getModifiers())) {
                Due.check("static " + field.getName() + " is final", Modifier.isFinal(field.getModifiers()));
            }
        }
        Set<String> due = Set.of("UNKNOWN", "OUTSIDE", "STATE", "FULL", "NONE", "KIND", "INDEX");
        Due.check("the constants " + names, names.equals(due));
    }

    private static void methods() {
        Set<String> told = new HashSet<>();
        Set<String> publicNames = new HashSet<>();
        Set<String> privateNames = new HashSet<>();
        for (Method method : IndentRules.class.getDeclaredMethods()) {
            if (Modifier.isPrivate(method.getModifiers())) {
                privateNames.add(method.getName());
                continue;
            }
            String types = Arrays.toString(method.getParameterTypes()).replace(" ", "");
            told.add(method.getName() + "(" + types.substring(1, types.length() - 1) + ")");
            publicNames.add(method.getName());
            Due.check(method + " is public", Modifier.isPublic(method.getModifiers()));
            Due.check(method + " tells an int", method.getReturnType() == int.class);
        }
        Due.check("the methods " + told, told.equals(new HashSet<>(METHODS)));
        for (Class<?> nested : IndentRules.class.getDeclaredClasses()) {
            for (Method method : nested.getDeclaredMethods()) {
                privateNames.add(method.getName());
            }
        }
        privateNames.retainAll(publicNames);
        Due.check("no other method has a public one's name: " + privateNames, privateNames.isEmpty());
        Constructor<?>[] constructors = IndentRules.class.getDeclaredConstructors();
        Due.due("constructors", constructors.length, 1);
        Due.check("it is public", Modifier.isPublic(constructors[0].getModifiers()));
        Due.check("the class is final", Modifier.isFinal(IndentRules.class.getModifiers()));
    }

    private static void nestedClasses() {
        Class<?>[] nested = IndentRules.class.getDeclaredClasses();
        for (Class<?> one : nested) {
            Due.check(one + " is static", Modifier.isStatic(one.getModifiers()));
            Due.check(one + " is not public", !Modifier.isPublic(one.getModifiers()));
        }
    }

    /** After the constructor no call makes anything; the slack is for what measuring itself makes. */
    private static void room() {
        com.sun.management.ThreadMXBean threads = (com.sun.management.ThreadMXBean) ManagementFactory.getThreadMXBean();
        long id = Thread.currentThread().getId();
        everyCall(new IndentRules());
        long start = threads.getThreadAllocatedBytes(id);
        IndentRules x = new IndentRules();
        long made = threads.getThreadAllocatedBytes(id);
        for (int round = 0; round < 13; round++) {
            everyCall(x);
        }
        long used = threads.getThreadAllocatedBytes(id);
        Due.check("a new object is small: " + (made - start), made - start < 20_000);
        Due.check("calls make nothing: " + (used - made), used - made < 4_000);
    }

    private static void everyCall(IndentRules x) {
        x.put(0, 124);
        x.put(1, 14189);
        x.change(0, 12);
        x.see(1, 4);
        x.style(0, 3);
        for (int what = 0; what < 6; what++) {
            x.ofLine(1, what);
            x.opener(0, what);
            x.guess(what);
            x.many(what);
        }
        x.unlike(0);
        x.fits(1, 2, 0, 1);
        x.score(1, 2, 0, 1, 0);
        x.follow();
        x.pocket(0, 0, 6);
        x.store(0, 0, 0);
        x.copy(0, 1);
        x.ofPocket(1, 0, 0);
        x.take(0);
    }
}
