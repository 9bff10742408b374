import java.io.IOException;
import java.lang.management.ManagementFactory;
import java.nio.file.Files;
import java.nio.file.Path;
import java.util.regex.Matcher;
import java.util.regex.Pattern;

/** The rules of ../shared/LANGUAGE.md that can be looked up in the source, and the room that calls take. */
public final class LanguageTest {
    private static final Path SOURCE = Path.of("src/main/java/TailorChalks.java");
    private static final String[] FORBIDDEN = {
        "\\bthrow\\b", "\\bthrows\\b", "\\btry\\b", "\\bcatch\\b", "\\bfinally\\b", "\\bsynchronized\\b", "\\bassert\\b",
        "\\bimport\\b", "\\bpackage\\b", "\\bvar\\b", "->", "::", "@", "\\bSystem\\.(?!arraycopy)", "\\bprotected\\b",
        "\\b(equals|hashCode|toString)\\b", "\\w+Exact\\b", "\\bstatic\\s*\\{"};
    private static final int OBJECTS = 200;
    private static final int ROUNDS = 22;
    private static final Check CHECK = new Check("LanguageTest");

    public static void main(String[] args) throws IOException {
        String source = Files.readString(SOURCE);
        String code = source.replaceAll("(?s)/\\*.*?\\*/", "").replaceAll("//[^\n]*", "");
        CHECK.isSo("signs are 1 to 127", source.chars().allMatch(sign -> sign >= 1 && sign <= 127));
        for (String forbidden : FORBIDDEN) {
            Matcher matcher = Pattern.compile(forbidden).matcher(code);
            CHECK.isSo("no " + forbidden, !matcher.find());
        }
        shortMethods(source);
        callsMakeNothing();
        CHECK.end();
    }

    private static void shortMethods(String source) {
        int start = 0;
        String[] lines = source.split("\n");
        for (int i = 0; i < lines.length; i++) {
            if (lines[i].matches("( {4}| {8})[a-zA-Z].*\\) \\{")) {
                start = i;
            } else if (lines[i].matches("( {4}| {8})\\}")) {
                CHECK.isSo("at most 60 lines from line " + (start + 1), i - start < 60 || !lines[start].contains("("));
                start = i;
            }
        }
    }

    /** All calls of a run share one room: only a new object may make objects. */
    private static void callsMakeNothing() {
        everyCall(new TailorChalks());
        TailorChalks[] objects = new TailorChalks[OBJECTS];
        for (int i = 0; i < OBJECTS; i++) {
            objects[i] = new TailorChalks();
        }
        com.sun.management.ThreadMXBean meter =
            (com.sun.management.ThreadMXBean) ManagementFactory.getThreadMXBean();
        long thread = Thread.currentThread().getId();
        meter.getThreadAllocatedBytes(thread);
        long before = meter.getThreadAllocatedBytes(thread);
        for (TailorChalks x : objects) {
            everyCall(x);
        }
        long made = meter.getThreadAllocatedBytes(thread) - before;
        // The smallest object has 16 bytes; the half leaves room for what the machine itself makes.
        CHECK.isSo("calls make nothing, but made " + made, made < 8L * OBJECTS * ROUNDS);
    }

    private static void everyCall(TailorChalks x) {
        for (int joint = 0; joint < ROUNDS; joint++) {
            x.chalk(joint);
            x.snip(joint);
            x.bluff(joint);
            x.doubt(joint);
            x.sew(joint);
            x.of(joint, 4);
            x.cell(joint, 1);
            x.player(0, 0);
            x.chalked(0, 0);
            x.count(5);
            x.bestSnip(1);
            x.weak();
            x.together(joint, 47, 1);
            x.put(0x703B7032L + joint % 3);
            x.fault();
            x.carryOut();
            x.wipe();
            x.put('p');
            x.carryOut();
            x.save(0);
            x.restore(0);
            x.undo();
        }
    }
}
