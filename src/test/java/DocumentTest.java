import java.io.IOException;
import java.lang.reflect.Method;
import java.nio.file.DirectoryStream;
import java.nio.file.Files;
import java.nio.file.Path;
import java.util.ArrayList;
import java.util.List;

/** The boundary cases are those of the document: their words stand in it, and no promise is left out. */
public final class DocumentTest {
    private static final int PROMISES = 20;

    private DocumentTest() {
    }

    public static void main(String[] args) throws IOException, ReflectiveOperationException {
        Checks checks = new Checks();
        String document = Files.readString(Path.of("../shared/DOC.md")).replaceAll("\\s+", " ");
        List<String> quoted = new ArrayList<>();
        for (Method m : cases()) {
            String words = m.getAnnotation(Boundary.class).value();
            quoted.add(words);
            checks.due(m.getName() + ": \"" + words + "\" stands in the document", document.contains(words), true);
        }
        for (int p = 1; p <= PROMISES; p++) {
            String promise = section(document, "## Promise " + p + ":");
            checks.due("promise " + p + " has a case", quoted.stream().anyMatch(promise::contains), true);
        }
        String terms = section(document, "## Terms");
        checks.due("the terms have cases", quoted.stream().anyMatch(terms::contains), true);
        checks.due("there is no promise more", document.contains("## Promise " + (PROMISES + 1)), false);
        checks.end("DocumentTest");
    }

    private static List<Method> cases() throws IOException, ReflectiveOperationException {
        List<Method> all = new ArrayList<>();
        try (DirectoryStream<Path> tests = Files.newDirectoryStream(Path.of("src/test/java"), "*BoundaryTest.java")) {
            for (Path test : tests) {
                Class<?> name = Class.forName(test.getFileName().toString().replace(".java", ""));
                for (Method m : name.getDeclaredMethods()) {
                    if (m.isAnnotationPresent(Boundary.class)) {
                        all.add(m);
                    }
                }
            }
        }
        return all;
    }

    /** A heading and what stands under it; nothing if there is no such heading. */
    private static String section(String document, String heading) {
        int begin = document.indexOf(heading);
        if (begin < 0) {
            return "";
        }
        int end = document.indexOf(" ## ", begin);
        return document.substring(begin, end < 0 ? document.length() : end);
    }
}
