import java.io.IOException;
import java.lang.reflect.Method;
import java.lang.reflect.Modifier;
import java.nio.file.Files;
import java.nio.file.Path;

/** What README.md says of the class: its example, with the answers told there, and no method left out. */
public final class ReadmeTest {
    private final Check check = new Check("ReadmeTest");

    public static void main(String[] args) throws IOException {
        ReadmeTest test = new ReadmeTest();
        String readme = Files.readString(Path.of("README.md"));
        test.example(readme);
        test.methods(readme);
        test.check.end();
    }

    private void example(String readme) {
        RowAligner x = new RowAligner();
        told(readme, "x.type(0, 0x6e657474696bL, 6);", x.type(0, 0x6e657474696bL, 6));
        told(readme, "x.type(1, 0x676e6974746973L, 7);", x.type(1, 0x676e6974746973L, 7));
        check.same("row A", Rows.row(x, 0), "kitten");
        check.same("row B", Rows.row(x, 1), "sitting");
        told(readme, "x.whole(0);", x.whole(0));
        told(readme, "x.steps();", x.steps());
        check.same("its steps", Rows.steps(x), "0000002");
        told(readme, "x.step(6);", x.step(6));
        told(readme, "x.ways();", x.ways());
        told(readme, "x.whole(8);", x.whole(8));
        x.scores(5, -4);
        x.costs(10, 1);
        told(readme, "x.parts();", x.parts());
        told(readme, "x.place(0, false);", x.place(0, false));
        told(readme, "x.place(0, true);", x.place(0, true));
    }

    /** The answer stands behind the call, as a comment up to its colon. */
    private void told(String readme, String call, long answer) {
        int at = readme.indexOf("\n" + call);
        String rest = at < 0 ? "" : readme.substring(at + 1 + call.length()).stripLeading();
        check.same(call, rest.startsWith("// ") ? rest.substring(3, Math.max(3, rest.indexOf(':'))) : "no answer",
                Long.toString(answer));
    }

    private void methods(String readme) {
        for (Method method : RowAligner.class.getDeclaredMethods()) {
            if (Modifier.isPublic(method.getModifiers())) {
                check.same(method.getName() + " stands in a table", readme.contains("`" + method.getName() + "(") ? 1 : 0, 1);
            }
        }
    }
}
