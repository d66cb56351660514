import java.io.IOException;
import java.nio.file.Files;
import java.nio.file.Path;
import java.util.List;

/** The example in README.md: each line answers what the README tells behind it. */
public final class ReadmeTests {
    private final Check check = new Check();
    private final List<String> lines;
    private int at;

    private ReadmeTests(Path readme) throws IOException {
        lines = Files.readAllLines(readme).stream().filter(line -> line.startsWith("x.")).toList();
    }

    public static void main(String[] args) throws IOException {
        ReadmeTests tests = new ReadmeTests(Path.of("README.md"));
        tests.example();
        tests.check.end();
    }

    private void example() {
        int none = CongruenceRows.NONE;
        CongruenceRows x = new CongruenceRows();
        line("x.builder(2);", () -> Make.builder(x, 2));
        line("x.term(0, none, none, none);", () -> x.term(0, none, none, none));
        line("x.term(1, none, none, none);", () -> x.term(1, none, none, none));
        line("x.term(2, 0, none, none);", () -> x.term(2, 0, none, none));
        line("x.term(2, 1, none, none);", () -> x.term(2, 1, none, none));
        line("x.part(3, 1);", () -> x.part(3, 1));
        line("x.fact(2, 3, true);", () -> x.fact(2, 3, true));
        line("x.isOne(0, 1);", () -> x.isOne(0, 1));
        line("x.row(1, 0);", () -> x.row(1, 0));
        line("x.reason(0, 1);", () -> x.reason(0, 1));
        line("x.isOther(0, 2);", () -> x.isOther(0, 2));
        line("x.fact(3, 2, true);", () -> x.fact(3, 2, true));
        line("x.idle();", x::idle);
        line("x.fact(0, 1, false);", () -> x.fact(0, 1, false));
        line("x.clashes();", x::clashes);
        line("x.clash();", x::clash);
        line("x.undo();", x::undo);
        line("x.clash();", x::clash);
        line("x.about(1);", () -> x.about(1));
        check.due("README: all lines are made", lines.size(), () -> at);
    }

    /** The next line of the example: the call, and what is told behind it up to a colon. */
    private void line(String call, Check.Call made) {
        String told = at < lines.size() ? lines.get(at) : "";
        at++;
        check.due("README: line " + at, call, () -> told.replaceAll(" *//.*", ""));
        check.due("README: " + call, told.replaceAll(".*// |:.*", ""), made);
    }
}
