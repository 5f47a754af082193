import java.lang.reflect.Constructor;
import java.lang.reflect.Field;
import java.lang.reflect.Method;
import java.lang.reflect.Modifier;
import java.util.Arrays;
import java.util.Set;
import java.util.TreeSet;

/** The public face is the document's, and nothing else of the class can be seen. */
public final class FaceTest {
    private static final String[] FACE = {
        "public int HaulFlows.cut(long,int,int,long)",
        "public int HaulFlows.fill(long,int,long)",
        "public boolean HaulFlows.swell(int,long,long)",
        "public boolean HaulFlows.fits(int,int,boolean)",
        "public int HaulFlows.way(long,long,long)",
        "public boolean HaulFlows.bar(int,int,int)",
        "public int HaulFlows.borrow(long,long)",
        "public boolean HaulFlows.most(int,long)",
        "public int HaulFlows.run(int) throws java.lang.IllegalStateException",
        "public long HaulFlows.moved(int,int,int)",
        "public long HaulFlows.cost(int)",
        "public long HaulFlows.dual(int,int,int)",
        "public int HaulFlows.clash(int)",
        "public long HaulFlows.closure(int,int)",
        "public int HaulFlows.list(int,int,int)",
        "public long HaulFlows.mass(long,int)",
        "public int HaulFlows.check()",
        "public long HaulFlows.level(int,int)",
    };

    public static void main(String[] args) {
        Due due = new Due("FaceTest");
        due.is("public final class", Modifier.toString(HaulFlows.class.getModifiers()).equals("public final"), true);
        due.is("BAD", HaulFlows.BAD, -1);
        due.is("NONE", HaulFlows.NONE, -2);
        Set<String> seen = new TreeSet<>();
        Set<String> names = new TreeSet<>();
        for (Method method : HaulFlows.class.getDeclaredMethods()) {
            if (!Modifier.isPrivate(method.getModifiers())) {
                seen.add(method.toGenericString());
                names.add(method.getName());
            }
        }
        due.is("the methods that can be seen: " + seen, seen.equals(new TreeSet<>(Arrays.asList(FACE))), true);
        for (Method method : HaulFlows.class.getDeclaredMethods()) {
            if (Modifier.isPrivate(method.getModifiers())) {
                due.is("private " + method.getName(), names.contains(method.getName()), false);
            }
        }
        for (Field field : HaulFlows.class.getDeclaredFields()) {
            boolean constant = field.toString().matches("public static final int HaulFlows\\.(BAD|NONE)");
            due.is(field.toString(), constant || Modifier.isPrivate(field.getModifiers()), true);
        }
        Constructor<?>[] constructors = HaulFlows.class.getDeclaredConstructors();
        due.is("constructors", constructors.length, 1);
        due.is("the constructor", constructors[0].toString().equals("public HaulFlows()"), true);
        due.end();
    }
}
