import java.io.IOException;
import java.nio.file.Files;
import java.nio.file.Path;
import java.util.ArrayDeque;
import java.util.Queue;
import java.util.function.LongSupplier;
import java.util.regex.Matcher;
import java.util.regex.Pattern;

/** The example of README.md, line by line: what its comments tell must be what the calls answer. */
public final class ReadmeTest {
    private static final Pattern ANSWER = Pattern.compile(".*// (-?\\d+)(:.*)?");
    private static final Check CHECK = new Check();
    private final FarStore store = new FarStore();
    private final Queue<String> lines;

    private ReadmeTest(Queue<String> lines) {
        this.lines = lines;
    }

    public static void main(String[] args) throws IOException {
        new ReadmeTest(example(Path.of("README.md"))).go();
        CHECK.end();
    }

    private static Queue<String> example(Path readme) throws IOException {
        String text = Files.readString(readme);
        int from = text.indexOf("```java\n") + "```java\n".length();
        Queue<String> lines = new ArrayDeque<>();
        for (String line : text.substring(from, text.indexOf("```", from)).split("\n")) {
            if (!line.isBlank()) {
                lines.add(line);
            }
        }
        return lines;
    }

    /** The next line of the example must be this code; its comment, if it begins with a number, the answer. */
    private void next(String code, LongSupplier call) {
        String line = lines.isEmpty() ? "" : lines.remove();
        CHECK.same("README.md's next line", line.split(" *//")[0], code);
        Matcher told = ANSWER.matcher(line);
        String got = Check.told(call);
        CHECK.same("README.md: " + line, got, told.matches() ? told.group(1) : "0");
    }

    private void nextSilent(String code, Check.Call call) {
        next(code, Check.silent(call));
    }

    private void go() {
        next("FarStore store = new FarStore();", () -> store.count(0));
        nextSilent("store.sites(2);", () -> store.sites(2));
        next("int price = store.object(1, false);", () -> store.object(1, false));
        next("int stock = store.object(1, true);", () -> store.object(1, true));
        int price = 0;
        int stock = 1;
        int t = 0;
        next("int t = store.begin(0);", () -> store.begin(0));
        ask(t, price, stock);
        spread(t, price);
        int u = 1;
        next("int u = store.begin(1);", () -> store.begin(1));
        look(u, price, stock);
        CHECK.due("lines of README.md's example left", lines.size(), 0);
    }

    private void ask(int t, int price, int stock) {
        nextSilent("store.change(t, stock, 7, true);", () -> store.change(t, stock, 7, true));
        nextSilent("store.write(t, price, 250L);", () -> store.write(t, price, 250L));
        next("store.commit(t);", () -> store.commit(t));
        next("store.waiting(0, 1);", () -> store.waiting(0, 1));
    }

    private void spread(int t, int price) {
        next("store.deliver(0, 1);", () -> store.deliver(0, 1));
        next("store.locked(price);", () -> store.locked(price));
        next("store.deliver(1, 0);", () -> store.deliver(1, 0));
        next("store.seen(1, 0);", () -> store.seen(1, 0));
        next("store.deliver(0, 1);", () -> store.deliver(0, 1));
        next("store.state(t, 2);", () -> store.state(t, 2));
    }

    private void look(int u, int price, int stock) {
        next("store.read(u, price);", () -> store.read(u, price));
        next("store.count(u, stock, 7);", () -> store.count(u, stock, 7));
        next("store.element(u, stock, 0);", () -> store.element(u, stock, 0));
        nextSilent("store.abort(u);", () -> store.abort(u));
    }
}
