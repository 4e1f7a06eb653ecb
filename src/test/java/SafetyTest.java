import java.lang.management.ManagementFactory;
import java.lang.reflect.InvocationTargetException;
import java.lang.reflect.Method;
import java.util.ArrayList;
import java.util.Arrays;
import java.util.Comparator;
import java.util.List;
import java.util.Random;

/**
 * What holds for all methods: an answer or an exception that the document names, whatever is asked;
 * one that throws, or only asks, changes nothing; and calls make next to no objects.
 * No object gets more than 512 calls: what later ones answer is free.
 */
public final class SafetyTest {
    private static final int[] EDGES = {Integer.MIN_VALUE, -1, 0, 1, 2, 3, 5, 8, 9, 10, 19, 20, 21, 63, 64, 65, 215,
        999, 1000, 6400, 1 << 29, 1 << 30, Integer.MAX_VALUE - 1, Integer.MAX_VALUE};
    private static final int COUNTED = 500;
    private static final List<String> CHANGING = List.of("lattice", "seed", "mark", "pin", "work", "misfit", "etch",
            "heat", "roll", "born", "curve", "cool", "soften", "furnace");

    private SafetyTest() {
    }

    public static void main(String[] args) throws ReflectiveOperationException {
        Random chance = new Random(58288L);
        for (int run = 0; run < 300; run++) {
            runAtTheEdges(run, chance);
        }
        for (Method method : face()) {
            countRoom(method);
        }
        Check.end("SafetyTest");
    }

    private static List<Method> face() {
        List<Method> face = new ArrayList<>(Arrays.asList(Grainwright.class.getDeclaredMethods()));
        face.removeIf(m -> !java.lang.reflect.Modifier.isPublic(m.getModifiers()));
        face.sort(Comparator.comparing(Method::getName));
        return face;
    }

    private static void runAtTheEdges(int run, Random chance) throws ReflectiveOperationException {
        List<Method> face = face();
        Grainwright x = new Grainwright();
        Grainwright twin = new Grainwright();
        for (int call = 0; call < 60; call++) {
            if (call % 15 == 3) {
                int wide = 2 + chance.nextInt(7);
                int high = 2 + chance.nextInt(7);
                int marks = 1 + chance.nextInt(9);
                Check.due("lattice of run " + run, x.lattice(wide, high, marks), twin.lattice(wide, high, marks));
            }
            Method method = face.get(chance.nextInt(face.size()));
            Object[] arguments = new Object[method.getParameterCount()];
            for (int k = 0; k < arguments.length; k++) {
                boolean isNumber = method.getParameterTypes()[k] == int.class;
                arguments[k] = isNumber ? (Object) EDGES[chance.nextInt(EDGES.length)] : (Object) chance.nextBoolean();
            }
            callAndLook("run " + run + ": " + method.getName() + Arrays.toString(arguments), x, twin, method, arguments);
        }
        Check.due("what run " + run + " leaves", Pieces.state(x), Pieces.state(twin));
    }

    /** The twin gets only the calls that may change something and do not throw. */
    private static void callAndLook(String told, Grainwright x, Grainwright twin, Method method, Object[] arguments)
            throws ReflectiveOperationException {
        boolean isChanging = CHANGING.contains(method.getName());
        try {
            method.invoke(x, arguments);
        } catch (InvocationTargetException e) {
            isChanging = false;
            Throwable thrown = e.getCause();
            if (!Arrays.asList(method.getExceptionTypes()).contains(thrown.getClass()) || thrown.getMessage() != null) {
                Check.tell(told + " throws " + thrown);
            }
        }
        if (isChanging) {
            method.invoke(twin, arguments);
        }
        if (x.digest() != twin.digest()) {
            Check.tell(told + " changes something that it may not");
        }
        if (!x.isSound()) {
            Check.tell(told + " leaves it unsound");
        }
    }

    private static Object[] dearArguments(Method method) {
        return switch (method.getName()) {
            case "lattice" -> new Object[] {8, 8, 9};
            case "seed", "pin", "etch", "texture", "sided", "ofGrain", "metal" -> new Object[] {1, 1};
            case "mark", "work", "change", "ofCell" -> new Object[] {9, 1};
            case "misfit" -> new Object[] {1, 2, 3};
            case "heat" -> new Object[] {9, 12};
            case "roll", "born" -> new Object[] {9};
            case "curve" -> new Object[] {9, 1};
            case "cool" -> new Object[] {9, 0, 50};
            case "furnace" -> new Object[] {215};
            case "wall" -> new Object[] {1, 2};
            case "line" -> new Object[] {1, true};
            case "wouldHeat" -> new Object[] {9, 4, 8};
            case "best" -> new Object[] {6400, true};
            case "least" -> new Object[] {15, true};
            case "wouldCool" -> new Object[] {9, 0, 64};
            default -> new Object[] {};
        };
    }

    /** Reflection and boxing take some of the room that is counted here. */
    private static void countRoom(Method method) throws ReflectiveOperationException {
        Grainwright x = new Grainwright();
        x.lattice(8, 8, 9);
        Object[] arguments = Arrays.copyOf(dearArguments(method), method.getParameterCount());
        for (int k = 0; k < 2 && method.getName().equals("pin"); k++) {
            x.pin(k + 8);
        }
        if (method.getName().equals("pin")) {
            return;
        }
        com.sun.management.ThreadMXBean threads =
                (com.sun.management.ThreadMXBean) ManagementFactory.getThreadMXBean();
        method.invoke(x, arguments);
        long before = threads.getThreadAllocatedBytes(Thread.currentThread().getId());
        for (int call = 0; call < COUNTED; call++) {
            method.invoke(x, arguments);
        }
        long taken = threads.getThreadAllocatedBytes(Thread.currentThread().getId()) - before;
        if (taken > COUNTED * 2000L) {
            Check.tell(COUNTED + " calls of " + method.getName() + " took " + taken + " bytes");
        }
    }
}
