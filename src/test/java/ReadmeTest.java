import java.io.IOException;
import java.nio.file.Files;
import java.nio.file.Path;

/** The example of README.md: its calls stand there in this order, and answer as it says. */
public final class ReadmeTest {
    private final String readme;
    private int readTo = 0;

    private ReadmeTest(String readme) {
        this.readme = readme;
    }

    public static void main(String[] args) throws IOException {
        // .ci/run runs the tests where README.md lies.
        new ReadmeTest(Files.readString(Path.of("README.md"))).example();
        Due.end();
    }

    private void example() {
        Desk desk = new Desk(4);
        says("BlockDesk desk = new BlockDesk(4);");
        takes("desk.put(0x0102L, 2);", desk.put(0x0102L, 2));
        takes("desk.fill(7, 600);", desk.fill(7, 600));
        answers("desk.record();", desk.record(), 1);
        takes("desk.charge(1);", desk.charge(1));
        takes("desk.fill(9, 600);", desk.fill(9, 600));
        answers("desk.record();", desk.record(), 2);
        answers("desk.state(0);", desk.state(0), 0);
        answers("desk.start();", desk.start(), 1);
        answers("desk.size(0);", desk.size(0), 602);
        answers("desk.byteOf(0, 1);", desk.byteOf(0, 1), 2);
        answers("desk.size(1);", desk.size(1), -1);
        answers("desk.snapshot();", desk.snapshot(), 1);
        Due.is("records, when all went", desk.state(1), 0);
        Due.is("the snapshot of nothing", desk.size(-1), 0);
    }

    private void takes(String call, boolean got) {
        says(call);
        Due.is(call, got, true);
    }

    private void answers(String call, int got, int want) {
        says(call);
        Due.is(call, got, want);
        String comment = readme.substring(readTo, readme.indexOf('\n', readTo)).strip();
        boolean told = comment.equals("// " + want) || comment.startsWith("// " + want + ":");
        Due.is(call + " with the comment " + comment, told, true);
    }

    private void says(String call) {
        int found = readme.indexOf(call, readTo);
        Due.is("README.md has " + call, found >= 0, true);
        readTo = found < 0 ? readTo : found + call.length();
    }
}
