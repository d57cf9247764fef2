import java.io.IOException;
import java.nio.file.Files;
import java.nio.file.Path;

/** Some of LANGUAGE.md's rules that can be seen in the program's text; run it from the project's directory. */
public final class LanguageTest {
    private static final String[] RULED_OUT = {
        "->", "::", "catch", "finally", "synchronized", "assert ", "Exact(", "instanceof", "System.out",
        "Math.random", "nanoTime", "currentTimeMillis", "String.format", "Integer.MAX_VALUE", "extends ",
    };

    private LanguageTest() {
    }

    public static void main(String[] args) throws IOException {
        String program = Files.readString(Path.of("src/main/java/MortarShow.java"));
        for (String text : RULED_OUT) {
            Check.same("the program holds " + text, program.contains(text), false);
        }
        int imports = 0;
        for (String line : program.split("\n")) {
            if (line.startsWith("import ")) {
                imports++;
                Check.same("the import", line, "import java.util.Arrays;");
            }
            Check.same("a package line", line.startsWith("package "), false);
        }
        Check.same("imports", imports, 1);
        Check.same("signs are 1 to 127", program.chars().allMatch(sign -> sign > 0 && sign < 128), true);
        Check.end("LanguageTest");
    }
}
