import java.io.IOException;
import java.nio.file.Files;
import java.nio.file.Path;
import java.util.ArrayList;
import java.util.List;
import java.util.regex.Matcher;
import java.util.regex.Pattern;

/** What the document says around its Terms and promises: 'What it is', 'The public face', and the headings of the calls. */
public final class FaceTests {
    private static final Pattern SIGNATURE = Pattern.compile("(?m)^ {4}(public [^;{=]*\\))[ ;]");
    private static final Pattern GROUP = Pattern.compile("Ahead of the calls? (.*) the interface says: (---- [^.]*)\\.");

    private static int wrong = 0;

    public static void main(String[] args) throws IOException {
        String document = Files.readString(Path.of("../shared/DOC.md"));
        String source = Files.readString(Path.of("src/main/java/BayMoorings.java"));
        theFaceIsTheDocuments(document, source);
        theHeadingsAreTheDocuments(document, source);
        fiveHundredAndTwelveCalls();
        objectsShareNothing();
        System.out.println(wrong == 0 ? "the face is the document's" : wrong + " things are not as the document says");
        if (wrong != 0) {
            System.exit(1);
        }
    }

    private static void due(String what, Object got, Object want) {
        if (!got.equals(want)) {
            wrong++;
            System.out.println(what + " is " + got + ", due is " + want);
        }
    }

    /** 'The public face': every signature as it is written there, in its order, and no other. */
    private static void theFaceIsTheDocuments(String document, String source) {
        int from = document.indexOf("```java\n");
        String face = document.substring(from, document.indexOf("```", from + 3));
        List<String> want = signatures(face);
        due("how many signatures the document has", want.size(), 35);
        due("the face", signatures(source), want);
        due("the class's first line", source.contains("\npublic final class BayMoorings {\n"), true);
    }

    private static List<String> signatures(String text) {
        List<String> found = new ArrayList<>();
        Matcher matcher = SIGNATURE.matcher(text);
        while (matcher.find()) {
            found.add(matcher.group(1));
        }
        return found;
    }

    /** 'Ahead of the calls .. the interface says: ..': each heading, and under it those calls and no others. */
    private static void theHeadingsAreTheDocuments(String document, String source) {
        Matcher group = GROUP.matcher(document);
        int groups = 0;
        while (group.find()) {
            groups++;
            String heading = "\n    // " + group.group(2) + "\n";
            int from = source.indexOf(heading);
            due("whether the source has '" + group.group(2) + "'", from >= 0, true);
            int to = source.indexOf("\n    // ----", from + heading.length());
            List<String> names = new ArrayList<>();
            for (String signature : signatures(source.substring(from, to))) {
                names.add("`" + signature.replaceAll("public int (\\w+)\\(.*", "$1") + "`");
            }
            due("what stands under '" + group.group(2) + "'", String.join(", ", names), group.group(1));
        }
        due("how many headings the document has", groups, 7);
    }

    /** 'What it is': the 512th call still answers as the first. */
    private static void fiveHundredAndTwelveCalls() {
        BayMoorings x = new BayMoorings();
        for (int call = 1; call <= 511; call++) {
            due("call " + call, x.winds(0), -1000001);
        }
        due("the 512th call", x.found(1), 511);
        BayMoorings y = new BayMoorings();
        y.buoy(0, 0, 20, 100);
        y.boat(0, 50, 10);
        for (int call = 3; call <= 511; call++) {
            due("call " + call, call % 2 == 1 ? y.moor(0, 0) : y.leave(0), call % 2);
        }
        due("the 512th call", y.of(0, 4), 0);
    }

    /** Promise 1: what one object is told never shows in another. */
    private static void objectsShareNothing() {
        BayMoorings told = new BayMoorings();
        BayMoorings other = new BayMoorings();
        told.buoy(0, 0, 20, 100);
        told.boat(0, 50, 10);
        told.tide(0, 7);
        told.winds(3);
        told.rate(9);
        told.stays(0);
        told.tell(5);
        told.moor(0, 0);
        told.moor(0, 0);
        told.years(30);
        BayMoorings later = new BayMoorings();
        for (BayMoorings x : new BayMoorings[] {other, later}) {
            for (int what = 0; what <= 5; what++) {
                due("count(" + what + ")", x.count(what), 0);
            }
            due("winds", x.winds(255), 255);
            due("rate", x.rate(3), 3);
            due("stays", x.stays(1), 1);
            due("tide", x.tide(0, 0), 0);
            for (int k = 1; k <= 5; k++) {
                due("found(" + k + ")", x.found(k), 0);
            }
        }
        due("what was told stays", told.about(0, 3), 0);
    }
}
