import java.io.IOException;
import java.nio.file.Files;
import java.nio.file.Path;
import java.util.ArrayList;
import java.util.List;

/** README.md's example: the same calls in the same order, each answering as the comment behind it begins. */
public final class ReadmeTest {
    private static final String MAKE = "Lineclock line = new Lineclock();";

    public static void main(String[] args) throws IOException {
        List<String> told = example(Files.readString(Path.of("README.md")));
        Check.same("README.md: how an object is made", told.remove(0), MAKE);
        List<String> done = calls();
        Check.same("README.md: the number of calls", told.size(), done.size());
        for (int i = 0; i < told.size() && i < done.size(); i++) {
            Check.same("README.md", told.get(i), done.get(i));
        }
        Check.end();
    }

    /** Each line of the example, with the first word of its comment alone. */
    private static List<String> example(String text) {
        int start = text.indexOf(MAKE);
        int end = text.indexOf("```", start);
        Check.isTrue("README.md: an example", start >= 0 && end > start);
        List<String> lines = new ArrayList<>();
        for (String line : text.substring(start, end).split("\n")) {
            lines.add(line.replaceAll(" +// ([^ :,]+).*", " $1"));
        }
        return lines;
    }

    private static List<String> calls() {
        Lineclock line = new Lineclock();
        List<String> done = new ArrayList<>();
        done.add("line.addStation(3, 0, 2, 6); " + line.addStation(3, 0, 2, 6));
        done.add("line.addStation(2, -1, 0, 0); " + line.addStation(2, -1, 0, 0));
        done.add("line.supply(0, 20); " + line.supply(0, 20));
        done.add("line.setPeriod(5); " + line.setPeriod(5));
        done.add("line.addCar(1); " + line.addCar(1));
        done.add("line.leavesIn(0); " + line.leavesIn(0));
        done.add("line.tick(4); " + line.tick(4));
        done.add("line.hasFault(0, 0); " + line.hasFault(0, 0));
        done.add("line.stateOf(0); " + line.stateOf(0));
        done.add("line.tick(6); " + line.tick(6));
        done.add("line.stateOf(0); " + line.stateOf(0));
        done.add("line.leftIn(0); " + line.leftIn(0));
        done.add("line.traceLength(0); " + line.traceLength(0));
        done.add("line.onShelf(0); " + line.onShelf(0));
        done.add("line.lackShare(); " + line.lackShare());
        done.add("line.meanTime(); " + line.meanTime());
        Check.same("README.md: the trace that it tells", Snapshot.trace(line, 0), "0-1+L0+x");
        return done;
    }
}
