import java.lang.reflect.InvocationTargetException;
import java.lang.reflect.Method;
import java.util.ArrayList;
import java.util.Arrays;
import java.util.Comparator;
import java.util.List;
import java.util.Random;

/** Runs of calls by chance (the same ones each time): the class and the Model must answer the same. */
public final class ModelTest {
    private static final int RUNS = 200;
    private static final int CALLS = 60;

    private ModelTest() {
    }

    public static void main(String[] args) throws ReflectiveOperationException {
        List<Method> face = new ArrayList<>();
        for (Method method : Model.class.getDeclaredMethods()) {
            if (java.lang.reflect.Modifier.isPublic(method.getModifiers())) {
                face.add(method);
            }
        }
        face.sort(Comparator.comparing(Method::getName));
        Random chance = new Random(20261119L);
        for (int run = 0; run < RUNS; run++) {
            runOnce(run, face, chance);
        }
        Check.end("ModelTest");
    }

    private static void runOnce(int run, List<Method> face, Random chance) throws ReflectiveOperationException {
        Grainwright real = new Grainwright();
        Model model = new Model();
        StringBuilder told = new StringBuilder("run " + run + ":");
        for (int call = 0; call < CALLS; call++) {
            Method method = face.get(chance.nextInt(face.size()));
            if (call == 0 && run % 8 != 0) {
                method = named(face, "lattice");
            }
            Object[] arguments = arguments(method, real, chance);
            told.append(' ').append(method.getName()).append(Arrays.toString(arguments));
            Object want = answer(model, method, arguments);
            Method same = Grainwright.class.getMethod(method.getName(), method.getParameterTypes());
            Object got = answer(real, same, arguments);
            if (!want.equals(got)) {
                Check.tell(told + " answered " + got + ", due is " + want);
                return;
            }
            if (model.digest() != real.digest()) {
                Check.tell(told + " left another digest behind");
                return;
            }
        }
    }

    private static Method named(List<Method> face, String name) {
        return face.stream().filter(m -> m.getName().equals(name)).findFirst().orElseThrow();
    }

    private static Object answer(Object on, Method method, Object[] arguments) throws IllegalAccessException {
        try {
            return method.invoke(on, arguments);
        } catch (InvocationTargetException e) {
            return e.getCause().getClass().getName();
        }
    }

    private static Object[] arguments(Method method, Grainwright real, Random chance) {
        Class<?>[] types = method.getParameterTypes();
        Object[] arguments = new Object[types.length];
        int cells = real.metal(13);
        int[] most = most(method.getName(), cells, real.metal(1));
        for (int k = 0; k < types.length; k++) {
            if (types[k] == boolean.class) {
                arguments[k] = chance.nextBoolean();
            } else if (method.getName().equals("least")) {
                arguments[k] = set(cells, chance);
            } else if (method.getName().equals("cool") && k == 1 && chance.nextInt(8) > 0) {
                arguments[k] = Math.min((Integer) arguments[0], chance.nextInt(10));
            } else {
                arguments[k] = chance.nextInt(40) == 0 ? -1 : chance.nextInt(most[k] + 2);
            }
        }
        return arguments;
    }

    /** A set of one to five CELLS, mostly those that there are. */
    private static int set(int cells, Random chance) {
        int set = 0;
        int many = 1 + chance.nextInt(3) + chance.nextInt(2) + chance.nextInt(20) / 19;
        for (int k = 0; k < many; k++) {
            set |= 1 << chance.nextInt(chance.nextInt(20) == 0 ? 32 : Math.max(1, Math.min(30, cells)));
        }
        return set;
    }

    private static int[] most(String name, int cells, int grains) {
        return switch (name) {
            case "lattice" -> new int[] {8, 8, 9};
            case "seed" -> new int[] {999};
            case "mark" -> new int[] {cells, 9};
            case "pin" -> new int[] {cells};
            case "work" -> new int[] {cells, 20};
            case "misfit" -> new int[] {9, 9, 9};
            case "heat" -> new int[] {9, 12};
            case "curve" -> new int[] {9, 99};
            case "cool", "wouldCool" -> new int[] {9, 9, name.equals("cool") ? 50 : 64};
            case "furnace" -> new int[] {216};
            case "ofCell" -> new int[] {cells, 5};
            case "ofGrain" -> new int[] {grains, 6};
            case "metal" -> new int[] {15};
            case "change" -> new int[] {cells, 4};
            case "line" -> new int[] {16, 0};
            case "wouldHeat" -> new int[] {9, 4, 15};
            case "best" -> new int[] {chanceAim(cells), 0};
            case "born" -> new int[] {20};
            default -> new int[] {9, 9, 9};
        };
    }

    private static int chanceAim(int cells) {
        return cells % 3 == 0 ? 6401 : 100 * cells + 1;
    }
}
