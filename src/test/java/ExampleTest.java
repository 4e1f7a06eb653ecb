import java.io.IOException;
import java.nio.file.Files;
import java.nio.file.Path;
import java.util.regex.Pattern;

/** The example of README.md: each call with the answer that stands behind it there. Takes the class's path. */
public final class ExampleTest {
    private static String readme = "";

    private ExampleTest() {
    }

    public static void main(String[] args) throws IOException {
        readme = Files.readString(Path.of(args[0]).resolve("../../../../README.md").normalize());
        Grainwright x = new Grainwright();
        told("x.lattice(7, 6, 5)", x.lattice(7, 6, 5));
        told("x.pin(9)", x.pin(9));
        told("x.misfit(2, 3, 4)", x.misfit(2, 3, 4));
        told("x.picture()", x.picture());
        told("x.roll(3)", x.roll(3));
        told("x.wouldHeat(2, 2, 3)", x.wouldHeat(2, 2, 3));
        told("x.heat(2, 2)", x.heat(2, 2));
        told("x.metal(3)", x.metal(3));
        told("x.ofGrain(0, 1)", x.ofGrain(0, 1));
        told("x.wouldCool(9, 0, 5)", x.wouldCool(9, 0, 5));
        told("x.cool(9, 0, 25)", x.cool(9, 0, 25));
        told("x.etched()", x.etched());
        told("x.soften()", x.soften());
        told("x.best(400, false)", x.best(400, false));
        told("x.best(400, true)", x.best(400, true));
        told("x.furnace(89)", x.furnace(89));
        told("x.least(7, false)", x.least(7, false));
        told("x.isSound()", x.isSound());
        Check.end("ExampleTest");
    }

    private static void told(String call, Object answer) {
        String line = Pattern.quote(call + ";") + " *// " + Pattern.quote(answer.toString()) + "[:\n]";
        Check.due("README.md tells " + call + " and " + answer, Pattern.compile(line).matcher(readme).find(), true);
    }
}
