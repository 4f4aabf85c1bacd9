import java.io.IOException;
import java.nio.file.DirectoryStream;
import java.nio.file.Files;
import java.nio.file.Path;
import java.util.ArrayList;
import java.util.List;
import java.util.regex.Matcher;
import java.util.regex.Pattern;

/** The sentences that the tests of bounds name stand in the document so, and each promise has one. */
public final class QuotesTest {
    private static final Check CHECK = new Check();
    private static final Path TESTS = Path.of("src/test/java");
    private static final Path DOCUMENT = Path.of("../shared/DOC.md");
    private static final int PROMISES = 31;

    public static void main(String[] args) throws IOException {
        String document = Files.readString(DOCUMENT).replaceAll("\\s+", " ");
        List<String> quotes = quotes();
        for (String quote : quotes) {
            int from = 0;
            for (String part : quote.split(" \\.\\. ")) {
                int at = document.indexOf(part, from);
                CHECK.due("the document has '" + part + "'", at >= 0, true);
                from = Math.max(from, at);
            }
        }
        for (int promise = 1; promise <= PROMISES; promise++) {
            promise(document, promise, quotes);
        }
        CHECK.finish();
    }

    private static List<String> quotes() throws IOException {
        List<String> quotes = new ArrayList<>();
        Pattern call = Pattern.compile("\\bsentence\\(\"([^\"]*)\"\\);");
        try (DirectoryStream<Path> tests = Files.newDirectoryStream(TESTS, "*BoundsTest.java")) {
            for (Path test : tests) {
                Matcher found = call.matcher(Files.readString(test));
                while (found.find()) {
                    quotes.add(found.group(1));
                }
            }
        }
        return quotes;
    }

    private static void promise(String document, int promise, List<String> quotes) {
        int from = document.indexOf("## Promise " + promise + ":");
        int to = document.indexOf("## ", from + 3);
        CHECK.due("promise " + promise + " stands in the document", from >= 0 && to > from, true);
        boolean told = false;
        for (String quote : quotes) {
            told |= document.substring(Math.max(0, from), Math.max(0, to)).contains(quote);
        }
        CHECK.due("a test of bounds names a sentence of promise " + promise, told, true);
    }
}
