import java.util.LinkedHashSet;
import java.util.List;
import java.util.Map;
import java.util.Set;

/** Tests that stand for one sentence of the document each. */
final class Edges {
    private static final Set<String> TESTED = new LinkedHashSet<>();

    interface Test {
        void run();
    }

    interface Action {
        int on(RightsCounter x);
    }

    private Edges() {
    }

    /** Runs the test of one sentence, in the words of the document; each has one. */
    static void test(String section, String sentence, Test test) {
        String name = name(section, sentence);
        Check.about(name);
        Check.holds("it has two tests", TESTED.add(name));
        int before = Check.done();
        test.run();
        Check.holds("its test looks at nothing", Check.done() > before);
        Check.about("the document");
    }

    private static String name(String section, String sentence) {
        return "[" + section + "] " + sentence;
    }

    /** The document's sentences have one test each, and there are no others. */
    static void endWith(Map<String, List<String>> document) {
        Set<String> due = new LinkedHashSet<>();
        document.forEach((section, sentences) -> sentences.forEach(s -> due.add(name(section, s))));
        // It tells what the class is, and no case.
        due.removeIf(name -> name.startsWith("[What it is] A counter of what software may be run: "));
        for (String name : due) {
            Check.holds("there is no test of " + name, TESTED.contains(name));
        }
        for (String name : TESTED) {
            Check.holds("there is no sentence " + name, due.contains(name));
        }
    }

    /** The call is refused, and the object then answers all as one on which it was not made. */
    static void refused(String what, Class<?> want, Scenes.Scene scene, Action call) {
        RightsCounter x = scene.make();
        Check.refuses(what, want, () -> call.on(x));
        Check.refuses(what + ", again", want, () -> call.on(x));
        Check.same(what + ", behind it", Probe.of(scene.make()), Probe.of(x));
    }

    /** The call answers, and the object then answers all as one on which it was not made. */
    static void asked(String what, int want, Scenes.Scene scene, Action call) {
        RightsCounter x = scene.make();
        Check.due(what, want, () -> call.on(x));
        Check.due(what + ", again", want, () -> call.on(x));
        Check.same(what + ", behind it", Probe.of(scene.make()), Probe.of(x));
    }

    /** A value below the least and one above the greatest, and those that are farthest off. */
    static int[] outside(int least, int greatest) {
        return new int[] {least - 1, greatest + 1, Integer.MIN_VALUE, Integer.MAX_VALUE};
    }
}
