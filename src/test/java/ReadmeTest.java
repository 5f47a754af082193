import java.io.IOException;
import java.lang.reflect.Method;
import java.lang.reflect.Modifier;
import java.nio.file.Files;
import java.nio.file.Path;

/** What README.md shows is what the class does. It is started in the project's root. */
public final class ReadmeTest {
    private static final Due DUE = new Due("ReadmeTest");
    private static final Path README = Path.of("README.md");
    private static final Path SELF = Path.of("src/test/java/ReadmeTest.java");

    public static void main(String[] args) throws IOException {
        example();
        DUE.is("README.md has the example as it stands here",
                between(README, "```java", "```").equals(between(SELF, "// begin", "// end")), true);
        everyCallIsNamed(Files.readString(README));
        DUE.end();
    }

    private static void example() {
        // begin
        HaulFlows road = new HaulFlows();
        int cut = road.cut(100, 0, 0, 0);        // 100 units of kind 0, from week 0 on, at metre 0
        int fill = road.fill(60, 3, 50);         // 60 units wanted in week 3 at metre 50
        road.swell(0, 6, 5);                     // kind 0 swells: the cut gives 120
        road.borrow(200, 5);                     // a pit at metre 200, 5 cents more a unit
        int way = road.way(0, 50, 1);            // a way from metre 0 to 50, 1 cent a unit
        road.bar(way, 0, 2);                     // barred in the weeks 0 to 2
        road.most(3, 500);                       // no more than 500 units in week 3
        if (road.run(96) == 0) {                 // 96 steps are enough for every road
            long cents = road.cost(0);           // of the whole plan: 60
            long units = road.moved(cut, fill, 0); // 60
            long left = road.level(cut, 0);      // of the cut: 60
            long more = road.dual(1, fill, 0);   // if the fill wanted one unit more: 1
            long detour = road.closure(way, 0);  // if the way were closed: 2940
            // end
            DUE.is("cents", cents, 60);
            DUE.is("units", units, 60);
            DUE.is("left", left, 60);
            DUE.is("gives", road.level(cut, 1), 120);
            DUE.is("more", more, 1);
            DUE.is("detour", detour, 2940);
        } else {
            DUE.is("a plan", false, true);
        }
        DUE.is("the first clash", clashOfTheExample(), 0);
        DUE.is("96 steps", Due.run(Road.FULL.make(), 96), 0);
    }

    /** The example's other branch: the fill's week takes less than the fill wants. */
    private static int clashOfTheExample() {
        HaulFlows road = new HaulFlows();
        road.cut(100, 0, 0, 0);
        road.fill(60, 3, 50);
        road.most(3, 59);
        DUE.is("no plan", Due.run(road, 96), 1);
        return road.clash(0);
    }

    /** The lines of a file between two others, without their spaces in front, up to an else. */
    private static String between(Path file, String first, String last) throws IOException {
        StringBuilder lines = new StringBuilder();
        boolean inside = false;
        for (String line : Files.readAllLines(file)) {
            String text = line.strip();
            if (inside && (text.equals(last) || text.startsWith("} else"))) {
                break;
            }
            if (inside) {
                lines.append(text).append('\n');
            }
            inside |= text.equals(first);
        }
        return lines.toString();
    }

    private static void everyCallIsNamed(String readme) {
        for (Method method : HaulFlows.class.getDeclaredMethods()) {
            if (Modifier.isPublic(method.getModifiers())) {
                DUE.is(method.getName(), readme.contains("`" + method.getName() + "("), true);
            }
        }
    }
}
