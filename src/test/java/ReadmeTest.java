import java.io.IOException;
import java.nio.file.Files;
import java.nio.file.Path;

/** The examples of README.md give what stands behind them, and are the ones that stand here. */
public final class ReadmeTest {
    private static final Check CHECK = new Check("ReadmeTest");

    private ReadmeTest() {
    }

    public static void main(String[] args) throws IOException {
        examples();
        eachLineIsTestedHere();
        CHECK.end();
    }

    private static void examples() {
        PatrolDesk desk = new PatrolDesk();
        desk.addRoad(0, 1, 5);
        int member = desk.addMember(0);
        desk.addPatrol(0, 9, true);
        desk.addGarage(1, 2);
        int call = desk.call(member, 1, 4);
        int wait = desk.waitFor(call);
        CHECK.due("wait", wait, 5);
        int done = desk.pass(30);
        CHECK.due("done", done, 1);
        int state = desk.callOf(call, 5);
        CHECK.due("state", state, 5);
        int paid = desk.member(member, 4) - 1000;
        CHECK.due("paid", paid, 20);

        for (char character : "m0@1!4;m1@3!12".toCharArray()) {
            desk.type(character);
        }
        int read = desk.readCalls();
        CHECK.due("read", read, PatrolDesk.UNKNOWN);
        CHECK.due("calls", desk.count(6), 1);
        desk.addMember(2);
        read = desk.readCalls();
        CHECK.due("read", read, 2);

        int minute = desk.keep();
        CHECK.due("minute", minute, 30);
        desk.pass(60);
        desk.setWeather(3);
        int left = desk.undo();
        CHECK.due("left", left, 3);
        CHECK.due("weather", desk.count(1), 0);
        minute = desk.restore();
        CHECK.due("minute", minute, 30);
    }

    private static void eachLineIsTestedHere() throws IOException {
        String here = Files.readString(Path.of("src/test/java/ReadmeTest.java"));
        boolean inExample = false;
        for (String line : Files.readAllLines(Path.of("README.md"))) {
            if (line.startsWith("```")) {
                inExample = line.equals("```java");
            } else if (inExample) {
                String code = line.replaceFirst("//.*", "").strip();
                CHECK.due("README.md: " + code + " stands in ReadmeTest", here.contains(code) ? 1 : 0, 1);
            }
        }
    }
}
