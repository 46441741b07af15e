import java.lang.reflect.Constructor;
import java.lang.reflect.Field;
import java.lang.reflect.Member;
import java.lang.reflect.Method;
import java.lang.reflect.Modifier;
import java.util.Arrays;
import java.util.Set;
import java.util.TreeSet;
import java.util.stream.Collectors;
import java.util.stream.Stream;

/** The public face: just the document's, and nothing else that others can see. */
public final class FaceTest {
    private static final String BOUNDS = "IndexOutOfBoundsException";
    private static final String ARGUMENT = "IllegalArgumentException";
    private static final String STATE = "IllegalStateException";

    public static void main(String[] args) {
        Check.holds("the class is public and final",
                Modifier.isPublic(RightsCounter.class.getModifiers())
                        && Modifier.isFinal(RightsCounter.class.getModifiers()));
        same("methods", methods(), Set.of(
                "int addRight(int,int,int,int,int)" + throwing(ARGUMENT, STATE),
                "int upgrade(int,int)" + throwing(BOUNDS, ARGUMENT, STATE),
                "int setUnits(int,int)" + throwing(BOUNDS, ARGUMENT),
                "int rights()" + throwing(),
                "int addMachine(int,int)" + throwing(BOUNDS, ARGUMENT, STATE),
                "int setCores(int,int)" + throwing(BOUNDS, ARGUMENT),
                "int tellApart(int,boolean)" + throwing(BOUNDS),
                "int setCoresOfUnit(int,int)" + throwing(BOUNDS, ARGUMENT),
                "int machines()" + throwing(),
                "int install(int,int,int,int)" + throwing(BOUNDS, ARGUMENT, STATE),
                "int uninstall(int,int,int)" + throwing(BOUNDS, ARGUMENT, STATE),
                "int runs(int,int,int)" + throwing(BOUNDS, ARGUMENT),
                "int needs(int)" + throwing(ARGUMENT),
                "int need(int,int)" + throwing(ARGUMENT, BOUNDS),
                "int demand(int,int)" + throwing(ARGUMENT, BOUNDS),
                "int gets(int,int)" + throwing(ARGUMENT, BOUNDS),
                "int lack(int)" + throwing(ARGUMENT),
                "int lackBySets(int)" + throwing(ARGUMENT, STATE),
                "int spare(int,int,int)" + throwing(ARGUMENT, BOUNDS),
                "int most(int,int)" + throwing(BOUNDS, ARGUMENT)));
        same("constants", fields(), Set.of("public static final int NONE"));
        same("constructors", constructors(), Set.of("public RightsCounter()"));
        Check.due("the constant NONE", -1, () -> RightsCounter.NONE);
        noPrivateMethodBearsAPublicName();
        Check.end();
    }

    private static void same(String what, Set<String> is, Set<String> due) {
        Check.holds(what + " are " + new TreeSet<>(is) + ", due are " + new TreeSet<>(due), is.equals(due));
    }

    private static String throwing(String... names) {
        return Arrays.toString(names);
    }

    private static boolean isSeen(Member member) {
        return !Modifier.isPrivate(member.getModifiers());
    }

    private static Stream<Method> seenMethods() {
        return Stream.of(RightsCounter.class.getDeclaredMethods()).filter(FaceTest::isSeen);
    }

    private static Set<String> methods() {
        return seenMethods().map(m -> describe(m)).collect(Collectors.toSet());
    }

    private static String describe(Method m) {
        String seen = Modifier.toString(m.getModifiers()).equals("public") ? "" : m.getModifiers() + " ";
        String types = Stream.of(m.getParameterTypes()).map(Class::getSimpleName).collect(Collectors.joining(","));
        String thrown = Arrays.toString(Stream.of(m.getExceptionTypes()).map(Class::getSimpleName).toArray());
        return seen + m.getReturnType().getSimpleName() + " " + m.getName() + "(" + types + ")" + thrown;
    }

    private static Set<String> fields() {
        return Stream.of(RightsCounter.class.getDeclaredFields()).filter(FaceTest::isSeen)
                .map((Field f) -> Modifier.toString(f.getModifiers()) + " " + f.getType() + " " + f.getName())
                .collect(Collectors.toSet());
    }

    private static Set<String> constructors() {
        return Stream.of(RightsCounter.class.getDeclaredConstructors()).filter(FaceTest::isSeen)
                .map((Constructor<?> c) -> c.toString()).collect(Collectors.toSet());
    }

    private static void noPrivateMethodBearsAPublicName() {
        Set<String> names = seenMethods().map(Method::getName).collect(Collectors.toSet());
        Stream.concat(Stream.of(RightsCounter.class), Stream.of(RightsCounter.class.getDeclaredClasses()))
                .flatMap(c -> Stream.of(c.getDeclaredMethods()))
                .filter(m -> !(m.getDeclaringClass() == RightsCounter.class && isSeen(m)))
                .forEach(m -> Check.holds(m + " bears a public name", !names.contains(m.getName())));
    }
}
