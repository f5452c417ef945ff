import java.io.IOException;
import java.nio.file.Files;
import java.nio.file.Path;
import java.util.List;

/** The example of README.md: it stands there line by line as here, and answers what is said there. */
public final class ReadmeTest {
    private static final Checks CHECKS = new Checks();

    public static void main(String[] args) throws IOException {
        example();
        sameLines();
        CHECKS.close("ReadmeTest");
    }

    private static void example() {
        // The example's first line.
        CipherModes x = new CipherModes();
        x.key(0, 0x0011223344556677L);      // a key of 4 words is LONG 0 and LONG 1 of the row of keys
        x.key(1, 0x8899AABBCCDDEEFFL);
        x.initial(0, 0x0102030405060708L);  // what is not set is 0: here LONG 1 of the initial block
        x.begin(2, 4, 0);                   // mode 2, 4 words, to be hidden
        x.feed(0x68656C6C6FL, 5);           // "hello" comes; 0 bytes are given out so far
        int hidden = x.end();               // 16: one block, padded
        long first = 0;
        long second = 0;
        for (int i = 0; i < 8; i++) {
            first = first << 8 | x.given(i);
            second = second << 8 | x.given(8 + i);
        }
        x.begin(2, 4, 1);                   // the same mode, key and initial block, to be shown
        x.feed(first, 8);
        x.feed(second, 8);                  // 0 again: the last block waits for the end
        int shown = x.end();                // 5: the padding is taken off
        char h = (char) x.given(0);         // 'h'
        // The example's last line.
        CHECKS.due("hidden", hidden, 16);
        CHECKS.due("shown", shown, 5);
        CHECKS.due("h", h, 'h');
        dueHidden(first, second);
        dueCounts(first, second);
    }

    private static void dueHidden(long first, long second) {
        byte[] row = new byte[64];
        Calls.putLong(row, 0, 0x0011223344556677L);
        Calls.putLong(row, 8, 0x8899AABBCCDDEEFFL);
        byte[] initial = new byte[16];
        Calls.putLong(initial, 0, 0x0102030405060708L);
        byte[] want = new Reference(row, initial, 4).hide(2, Calls.hex("68656C6C6F"));
        CHECKS.due("first", first, Calls.longAt(want, 0));
        CHECKS.due("second", second, Calls.longAt(want, 8));
    }

    /** The answers that the example lets go, but tells in its comments. */
    private static void dueCounts(long first, long second) {
        CipherModes x = new CipherModes();
        CHECKS.due("key(0)", x.key(0, 0x0011223344556677L), true);
        CHECKS.due("key(1)", x.key(1, 0x8899AABBCCDDEEFFL), true);
        CHECKS.due("initial(0)", x.initial(0, 0x0102030405060708L), true);
        CHECKS.due("begin to hide", x.begin(2, 4, 0), 0);
        CHECKS.due("feed of hello", x.feed(0x68656C6C6FL, 5), 0);
        CHECKS.due("begin to show", x.begin(2, 4, 1), 0);
        CHECKS.due("feed of first", x.feed(first, 8), 0);
        CHECKS.due("feed of second", x.feed(second, 8), 0);
    }

    private static void sameLines() throws IOException {
        String readme = Files.readString(Path.of("README.md"));
        String due = String.join("\n", exampleLines()) + "\n";
        CHECKS.due("README.md has the example", readme.contains("```java\n" + due + "```\n"), true);
    }

    private static List<String> exampleLines() throws IOException {
        List<String> lines = Files.readAllLines(Path.of("src/test/java/ReadmeTest.java"));
        int from = lines.indexOf("        // The example's first line.") + 1;
        int to = lines.indexOf("        // The example's last line.");
        return lines.subList(from, to).stream().map(line -> line.substring(8)).toList();
    }
}
