import java.io.IOException;
import java.nio.file.Files;
import java.nio.file.Path;
import java.util.ArrayList;
import java.util.List;

/** The example of README.md: its answers, and that it stands here as it stands there. */
public final class ReadmeTest {
    private static final Due due = new Due();

    public static void main(String[] arguments) throws IOException {
        due.promise(0, "README.md");
        answers();
        sameLines();
        due.end();
    }

    private static void answers() {
        BusLifts lifts = new BusLifts();    // a lift of 2 floors and 1 car, until a setup is loaded

        // "floo" "rs 9" ";car" " 0 2" ";car" / " 8 1" ";cal" "l 0 " "3 6;" "call" / " 0 7" " 1; " and spaces
        lifts.appendInput(0x666c6f6f, 0x72732039, 0x3b636172, 0x20302032, 0x3b636172);
        lifts.appendInput(0x20382031, 0x3b63616c, 0x6c203020, 0x3320363b, 0x63616c6c);
        lifts.appendInput(0x20302037, 0x20313b20, 0x20202020, 0x20202020, 0x20202020);
        int cars = lifts.loadLifts();       // 2; -1 for a faulty text: see errorCode() and errorOffset()

        lifts.run(4);                       // four ticks
        boolean held = lifts.holds(0, 0);   // true: car 0 holds call 0
        int call = lifts.makeCall(5, 0);    // 2: the number of the new call
        int ticks = lifts.doneIn(100);      // 22: a forecast; nothing has changed
        int before = lifts.set(0, 30);      // 0: the noise before; from now on it is 30
        int done = lifts.run(20);           // 3: the calls that are done in these ticks
        int wait = lifts.waitOf(call);      // 10
        int lost = lifts.messages(-1, true);    // 11: the messages that were lost for some receiver
        int bytes = lifts.printCar(0);      // 9: one byte for each floor, to be read by outputByte
        int left = lifts.undo();            // 3: the changes that can still be undone
        int time = lifts.count(3);          // 4: the last run is undone

        due.is("cars", cars, 2);
        due.is("held", held, true);
        due.is("call", call, 2);
        due.is("ticks", ticks, 22);
        due.is("before", before, 0);
        due.is("done", done, 3);
        due.is("wait", wait, 10);
        due.is("lost", lost, 11);
        due.is("bytes", bytes, 9);
        due.is("left", left, 3);
        due.is("time", time, 4);
    }

    private static void sameLines() throws IOException {
        List<String> here = stripped("src/test/java/ReadmeTest.java");
        List<String> there = stripped("README.md");
        List<String> example = there.subList(there.indexOf("```java") + 1, there.lastIndexOf("```"));
        due.is("lines of the example", example.size() > 10, true);
        int begin = here.indexOf(example.get(0));
        due.is("the example is found", begin >= 0, true);
        for (int index = 0; begin >= 0 && index < example.size(); index++) {
            due.isText("line " + index + " of the example", here.get(begin + index), example.get(index));
        }
        for (var method : BusLifts.class.getDeclaredMethods()) {
            if (java.lang.reflect.Modifier.isPublic(method.getModifiers())) {
                String name = method.getName();
                due.is("README.md names " + name, String.join("\n", there).matches("(?s).*[`.]" + name + "[`(].*"), true);
            }
        }
    }

    private static List<String> stripped(String file) throws IOException {
        List<String> lines = new ArrayList<>();
        for (String line : Files.readAllLines(Path.of(file))) {
            lines.add(line.strip());
        }
        return lines;
    }
}
