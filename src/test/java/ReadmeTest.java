import java.io.IOException;
import java.lang.reflect.Method;
import java.lang.reflect.Modifier;
import java.nio.file.Files;
import java.nio.file.Path;
import java.util.ArrayList;
import java.util.Iterator;
import java.util.List;

/** What README.md says holds: each answer of its example, and its list of all calls of the public face. */
public final class ReadmeTest {
    private static final String EXAMPLE_BEGINS = "```java";
    private static final String EXAMPLE_ENDS = "```";

    private final List<String> readme;
    private final Iterator<String> example;

    private ReadmeTest(List<String> readme) {
        this.readme = readme;
        this.example = exampleOf(readme).iterator();
    }

    public static void main(String[] args) throws IOException {
        ReadmeTest test = new ReadmeTest(Files.readAllLines(Path.of("README.md")));
        test.exampleHolds();
        test.exampleHasEveryCall();
        test.everyCallIsListed();
        Check.end();
    }

    private static List<String> exampleOf(List<String> readme) {
        int begin = readme.indexOf(EXAMPLE_BEGINS) + 1;
        List<String> rest = readme.subList(begin, readme.size());
        return new ArrayList<>(rest.subList(0, Math.max(0, rest.indexOf(EXAMPLE_ENDS))));
    }

    private void exampleHolds() {
        says("HandOffRecorder recorder = new HandOffRecorder(0, 2);", "a line");
        HandOffRecorder recorder = new HandOffRecorder(0, 2);
        says("recorder.beginPut(0, 7);", recorder.beginPut(0, 7));
        says("recorder.beginTake(1);", recorder.beginTake(1));
        says("recorder.explanations();", recorder.explanations());
        says("recorder.outcomes();", recorder.outcomes());
        says("recorder.fewest();", recorder.fewest());
        says("recorder.most();", recorder.most());
        says("recorder.mayHold(0, 7);", recorder.mayHold(0, 7));
        says("recorder.answers(1);", recorder.answers(1));
        says("recorder.certain(0);", recorder.certain(0));
        says("recorder.endTake(1, 7);", recorder.endTake(1, 7));
        says("recorder.fits();", recorder.fits());
        says("recorder.certain(0);", recorder.certain(0));
        says("recorder.endPut(0, false);", recorder.endPut(0, false));
        says("recorder.fits();", recorder.fits());
        says("recorder.brokenAt();", recorder.brokenAt());
        says("recorder.most();", recorder.most());
        says("recorder.events();", recorder.events());
        says("recorder.begun();", recorder.begun());
        says("recorder.giveUp(0);", recorder.giveUp(0));
        says("recorder.renew(1, 8);", "throws the record away");
        recorder.renew(1, 8);
        says("recorder.beginTake(2);", recorder.beginTake(2));
        says("recorder.giveUp(2);", recorder.giveUp(2));
        says("recorder.fits();", recorder.fits());
        Check.due("the example goes on", example.hasNext(), false);
    }

    private void says(String call, Object answer) {
        String line = example.hasNext() ? example.next() : "no line";
        String[] parts = line.split("\\s*//\\s*", 2);
        Check.due("the example's next call", parts[0], call);
        String told = parts.length == 2 ? parts[1] : "nothing";
        boolean same = told.equals(answer.toString()) || told.matches(answer + "[: ].*");
        Check.due("README.md tells of " + call + " '" + told + "', but it answers " + answer, same, true);
    }

    private void exampleHasEveryCall() {
        String whole = String.join("\n", exampleOf(readme));
        for (Method method : HandOffRecorder.class.getDeclaredMethods()) {
            if (Modifier.isPublic(method.getModifiers())) {
                Check.due("the example has " + method.getName(), whole.contains("." + method.getName() + "("), true);
            }
        }
    }

    private void everyCallIsListed() {
        listed("- `HandOffRecorder(int kind, int capacity)`: ");
        for (Method method : HandOffRecorder.class.getDeclaredMethods()) {
            if (Modifier.isPublic(method.getModifiers())) {
                listed("- `" + method.getReturnType() + " " + method.getName() + "(");
            }
        }
    }

    private void listed(String beginning) {
        long times = readme.stream().filter(line -> line.startsWith(beginning)).count();
        Check.due("lines of README.md with " + beginning, times, 1);
    }
}
