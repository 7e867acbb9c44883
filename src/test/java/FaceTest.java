import java.io.IOException;
import java.lang.management.ManagementFactory;
import java.lang.reflect.Constructor;
import java.lang.reflect.Field;
import java.lang.reflect.Member;
import java.lang.reflect.Method;
import java.lang.reflect.Modifier;
import java.nio.file.Files;
import java.nio.file.Path;
import java.util.ArrayList;
import java.util.Arrays;
import java.util.List;
import java.util.TreeSet;
import java.util.regex.Pattern;
import java.util.stream.Collectors;

/** The face that the document tells, the rules of LANGUAGE.md that can be seen from outside, and the room. */
final class FaceTest {
    private static final String NO_SUCH = " throws NoSuchElementException";
    private static final String ILLEGAL = " throws IllegalArgumentException";
    private static final String BOTH = " throws NoSuchElementException, IllegalArgumentException";
    private static final String[] FACE = {
        "int feed(int, int, int, int, int)", "int load(int)" + ILLEGAL, "int errorPosition()", "int size(int)" + ILLEGAL,
        "int account(int)" + ILLEGAL, "int folder(int, int)" + BOTH, "int marked(int)", "int at(int)",
        "int reader(int, int)" + BOTH, "int waiting(int, int)" + ILLEGAL, "int gap()", "int found(int)", "int looks(int)",
        "int missed()", "int refilePlace(int)", "int inversions()", "int longestOrdered()", "int lookedAt(int, int)",
        "int mostMisplaced()", "int mostAsked()", "int why(int, int)" + NO_SUCH, "int cause(int, int)" + NO_SUCH,
        "int waitsFor(int)", "int servedIn(int)", "int servedBy(int)" + ILLEGAL, "int waitingIn(int)" + ILLEGAL,
        "int servedWith(int)" + ILLEGAL, "int swapsLeft()", "int missedAfter(int)" + ILLEGAL, "float foundShare()",
        "double meanWait()", "int slip(int, int)" + NO_SUCH, "int dropSlip(int)", "int giveBack(int)" + NO_SUCH,
        "int days(int)" + ILLEGAL, "int misfile(int, int)" + NO_SUCH, "int straighten(int)" + NO_SUCH,
        "int check(int)" + ILLEGAL, "int setEmbargo(int, int)" + BOTH, "int play(int)" + ILLEGAL, "int format()",
        "int formattedByte(int)", "int undoCount()", "int undo()", "void saveSnapshot()", "boolean restoreSnapshot()",
    };

    public static void main(String[] args) throws IOException {
        face();
        insides();
        source(Files.readAllLines(Path.of(System.getProperty("source", "src/main/java/SlipArchive.java"))));
        room();
        Due.end();
    }

    private static String names(Class<?>[] types) {
        return Arrays.stream(types).map(Class::getSimpleName).collect(Collectors.joining(", "));
    }

    private static boolean isOpen(Member member) {
        return !Modifier.isPrivate(member.getModifiers()) && !member.isSynthetic();
    }

    private static void face() {
        Due.yes("the class is public and final", Modifier.isPublic(SlipArchive.class.getModifiers())
            && Modifier.isFinal(SlipArchive.class.getModifiers()));
        TreeSet<String> found = new TreeSet<>();
        TreeSet<String> open = new TreeSet<>();
        for (Method m : SlipArchive.class.getDeclaredMethods()) {
            if (isOpen(m)) {
                open.add(m.getName());
                String thrown = names(m.getExceptionTypes());
                found.add((Modifier.isPublic(m.getModifiers()) ? "" : "not public: ") + m.getReturnType().getSimpleName() + " "
                    + m.getName() + "(" + names(m.getParameterTypes()) + ")" + (thrown.isEmpty() ? "" : " throws " + thrown));
            }
        }
        Due.same("the calls", new TreeSet<>(Arrays.asList(FACE)).toString(), found.toString());
        for (Class<?> inside : SlipArchive.class.getDeclaredClasses()) {
            for (Method m : inside.getDeclaredMethods()) {
                Due.yes(inside.getSimpleName() + "." + m.getName() + " bears no name of the face", !open.contains(m.getName()));
            }
        }
        for (Method m : SlipArchive.class.getDeclaredMethods()) {
            Due.yes(m.getName() + " bears no name of the face", isOpen(m) || !open.contains(m.getName()));
        }
        List<String> fields = new ArrayList<>();
        for (Field f : SlipArchive.class.getDeclaredFields()) {
            if (isOpen(f)) {
                fields.add(Modifier.toString(f.getModifiers()) + " " + f.getType() + " " + f.getName());
            }
        }
        Due.same("the constants", "[public static final int NONE]", fields.toString());
        Constructor<?>[] makers = SlipArchive.class.getDeclaredConstructors();
        Due.same("constructors", 1, makers.length);
        Due.same("the constructor", "public SlipArchive()", makers[0].toString());
    }

    private static void insides() {
        Class<?>[] all = SlipArchive.class.getDeclaredClasses();
        Due.yes("twelve classes at most", all.length < 12);
        for (Class<?> inside : all) {
            Due.yes(inside + " is static", Modifier.isStatic(inside.getModifiers()));
            Due.yes(inside + " is not open", !Modifier.isPublic(inside.getModifiers())
                && !Modifier.isProtected(inside.getModifiers()));
            int fields = 0;
            for (Field f : inside.getDeclaredFields()) {
                boolean still = Modifier.isStatic(f.getModifiers());
                fields += still ? 0 : 1;
                Due.yes(f + " is final if it is static", !still || Modifier.isFinal(f.getModifiers()));
            }
            Due.yes(inside + " has twenty fields at most", fields <= 20);
            for (Method m : inside.getDeclaredMethods()) {
                Due.yes(m + " has seven parameters at most", m.getParameterCount() <= 7);
            }
        }
    }

    private static void source(List<String> lines) {
        String[] forbidden = {"->", "::", "\\bcatch\\b", "\\bfinally\\b", "\\bsynchronized\\b", "\\bassert\\b", "\\brecord\\b",
            "\\bSystem\\b", "\\bThread\\b", "\\bRandom\\b", "\\bNaN\\b", "Exact\\(", "\\bequals\\b", "\\bhashCode\\b",
            "\\btoString\\b", "\\bpackage\\b", "static \\{", "\\bprotected\\b", "\\bvolatile\\b", "while \\(true", "for \\(;;"};
        List<String> imports = new ArrayList<>();
        int from = 0;
        for (int i = 0; i < lines.size(); i++) {
            String line = lines.get(i);
            String where = "line " + (i + 1) + ": ";
            Due.yes(where + "signs are 1 to 127", line.chars().allMatch(sign -> sign > 0 && sign < 128));
            if (line.startsWith("import")) {
                imports.add(line);
            }
            String code = line.strip();
            if (code.startsWith("/*") || code.startsWith("*") || code.startsWith("//")) {
                continue;
            }
            for (String word : forbidden) {
                Due.yes(where + word, !Pattern.compile(word).matcher(code).find());
            }
            if (code.startsWith("throw ")) {
                Due.yes(where + "a written text", code.matches("throw new (IllegalArgument|NoSuchElement)Exception\\(\"[^\"]*\"\\);"));
            }
            if (line.matches("( {4}| {8})[A-Za-z].*\\{")) {
                from = i;
            } else if (line.matches("( {4}| {8})\\}")) {
                Due.yes(where + "a method of sixty lines at most", i - from < 60 || line.startsWith("    }"));
            }
        }
        Due.same("imports", "[import java.util.NoSuchElementException;]", imports.toString());
    }

    /** The dearest calls make nothing: all is made with the object. */
    private static void room() {
        com.sun.management.ThreadMXBean threads = (com.sun.management.ThreadMXBean) ManagementFactory.getThreadMXBean();
        SlipArchive warm = new SlipArchive();
        Due.play(warm, "slip 0 40;day 60;check 99;");
        long before = threads.getCurrentThreadAllocatedBytes();
        SlipArchive x = new SlipArchive();
        long made = threads.getCurrentThreadAllocatedBytes() - before;
        Due.yes("an object takes " + made + " bytes, 40000 at most", made <= 40000);
        before = threads.getCurrentThreadAllocatedBytes();
        for (int i = 0; i < 25; i++) {
            x.slip(0, 4);
            x.slip(1, 2);
            x.days(1);
            x.check(99);
            x.misfile(3, 0);
            x.giveBack(4);
            x.giveBack(2);
            x.servedIn(0);
            x.servedBy(60);
            x.waitingIn(60);
            x.servedWith(6);
            x.missedAfter(99);
            x.longestOrdered();
            x.format();
            x.feed(0x64617920, 0x313b2020, 0x20202020, 0x20202020, 0x20202020);
            x.play(20);
            x.saveSnapshot();
            x.undo();
            x.restoreSnapshot();
        }
        long kept = threads.getCurrentThreadAllocatedBytes() - before;
        Due.yes("calls take " + kept + " bytes, 1000 at most", kept <= 1000);
    }
}
