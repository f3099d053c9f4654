import java.io.IOException;
import java.lang.management.ManagementFactory;
import java.lang.reflect.Field;
import java.lang.reflect.Method;
import java.lang.reflect.Modifier;
import java.nio.file.Files;
import java.nio.file.Path;
import java.util.ArrayList;
import java.util.List;
import java.util.Set;
import java.util.TreeSet;
import java.util.regex.Matcher;
import java.util.regex.Pattern;

/** The public face, and those rules of LANGUAGE.md that reflection or the source's words show. */
public final class RulesTest {
    private static final String SOURCE = "src/main/java/LittleSums.java";
    private static final String FACE = "write1 wipe0 fault0 lay0 put2 take2 becomeSums3 move4 shrink3 undo0 member2 sum3"
        + " difference3 times2 ways3 energy1 cover2 grid2 alike2 partner3 swell3 floor2 tight2 room1 smallest3 count1";
    private static final String TEXT = "s0,0,1,4,9;s1,0,2,3,7;s2,0,5,10;";
    private static final String CONSTANTS = "BAD FULL NO NONE ZERO";

    /** What rule 4 lists, or lets in as the like of it, and is called by a class's name. */
    private static final String LIBRARY = "System.arraycopy Arrays.copyOf Arrays.copyOfRange Arrays.fill List.of"
        + " Integer.compare Integer.bitCount Integer.numberOfTrailingZeros Long.compare Long.bitCount Long.reverse"
        + " Long.numberOfTrailingZeros Long.numberOfLeadingZeros Math.max Math.min Math.abs Math.floorDiv Math.floorMod";

    private RulesTest() {
    }

    public static void main(String[] args) throws IOException {
        theFace();
        theClasses();
        theWords();
        theLibrary();
        theMethodsAreShort();
        noCallMakesAnObject();
        Due.end();
    }

    private static void theFace() {
        Set<String> methods = new TreeSet<>();
        for (Method m : LittleSums.class.getDeclaredMethods()) {
            if (!Modifier.isPrivate(m.getModifiers())) {
                boolean plain = Modifier.isPublic(m.getModifiers()) && !Modifier.isStatic(m.getModifiers());
                Due.holds(m + " is public and answers an int", plain && m.getReturnType() == int.class);
                methods.add(m.getName() + m.getParameterCount());
            }
        }
        Due.holds("the methods of the face: " + methods, methods.equals(new TreeSet<>(List.of(FACE.split(" ")))));
        Set<String> constants = new TreeSet<>();
        for (Field f : LittleSums.class.getDeclaredFields()) {
            if (!Modifier.isPrivate(f.getModifiers())) {
                boolean plain = Modifier.isPublic(f.getModifiers()) && Modifier.isStatic(f.getModifiers());
                Due.holds(f + " is a public constant", plain && Modifier.isFinal(f.getModifiers()));
                constants.add(f.getName());
            }
        }
        Due.holds("the constants: " + constants, String.join(" ", constants).equals(CONSTANTS));
        Due.is("BAD", LittleSums.BAD, -1);
        Due.is("NO", LittleSums.NO, -2);
        Due.is("FULL", LittleSums.FULL, -3);
        Due.is("NONE", LittleSums.NONE, -4);
        Due.is("ZERO", LittleSums.ZERO, 100);
        int kind = LittleSums.class.getModifiers();
        Due.holds("the class is public and final", Modifier.isPublic(kind) && Modifier.isFinal(kind));
        Due.is("public constructors", LittleSums.class.getConstructors().length, 1);
        Due.is("constructors", LittleSums.class.getDeclaredConstructors().length, 1);
    }

    private static void theClasses() {
        List<Class<?>> all = new ArrayList<>(List.of(LittleSums.class.getDeclaredClasses()));
        for (Class<?> c : all) {
            Due.holds(c + " is static", Modifier.isStatic(c.getModifiers()));
            Due.holds(c + " is not public", !Modifier.isPublic(c.getModifiers()));
        }
        all.add(LittleSums.class);
        Due.holds("at most twelve classes", all.size() <= 12);
        for (Class<?> c : all) {
            int fields = 0;
            for (Field f : c.getDeclaredFields()) {
                boolean constant = Modifier.isStatic(f.getModifiers());
                Due.holds(f + " is final if it is static", !constant || Modifier.isFinal(f.getModifiers()));
                fields += constant ? 0 : 1;
            }
            Due.holds(c + " has at most twenty fields", fields <= 20);
            for (Method m : c.getDeclaredMethods()) {
                Due.holds(m + " has at most seven parameters", m.getParameterCount() <= 7);
                boolean apart = !(" " + FACE).matches(".* " + m.getName() + "\\d.*");
                Due.holds(m + " bears no public name", apart || Modifier.isPublic(m.getModifiers()));
            }
        }
    }

    private static void theWords() throws IOException {
        String code = code();
        String[] never = {"\\bthrow\\b", "\\btry\\b", "\\bcatch\\b", "\\bsynchronized\\b", "\\bassert\\b", "->", "::",
            "\\bstatic\\s*\\{", "\\bpackage\\b", "Exact\\b", "\\bRandom\\b", "\\bThread\\b", "currentTimeMillis",
            "nanoTime", "\\bprint", "\\bhashCode\\b", "@SuppressWarnings", "\\bprotected\\b", "\\bObject\\b"};
        for (String word : never) {
            Due.holds("the source has no " + word, !Pattern.compile(word).matcher(code).find());
        }
        for (String line : code.split("\n")) {
            if (line.startsWith("import ")) {
                Due.holds(line, line.matches("import java\\.util\\.(Arrays|ArrayList|List|Iterator);\\s*"));
            }
        }
        Due.holds("the source is ASCII", code.chars().allMatch(c -> c < 127));
    }

    /** A name with a great letter first and a small one in it is a class: one of its own, or a listed one. */
    private static void theLibrary() throws IOException {
        String code = code().replaceAll("(?m)^import .*$", "");
        Set<String> own = new TreeSet<>(Set.of("LittleSums"));
        for (Class<?> c : LittleSums.class.getDeclaredClasses()) {
            own.add(c.getSimpleName());
        }
        Matcher name = Pattern.compile("(?<![\\w.])([A-Z]\\w*[a-z]\\w*)(\\.\\w+)?").matcher(code);
        int calls = 0;
        while (name.find()) {
            if (!own.contains(name.group(1))) {
                calls++;
                Due.holds(name.group() + " is listed", List.of(LIBRARY.split(" ")).contains(name.group()));
            }
        }
        Due.holds("the library's calls are seen", calls > 0);
    }

    /** The source without its comments. */
    private static String code() throws IOException {
        String source = Files.readString(Path.of(SOURCE));
        return Pattern.compile("/\\*.*?\\*/|//[^\n]*", Pattern.DOTALL).matcher(source).replaceAll("");
    }

    /** A method begins with a line that ends in ") {" and ends with a brace as far to the left. */
    private static void theMethodsAreShort() throws IOException {
        String[] lines = code().split("\n", -1);
        for (int i = 0; i < lines.length; i++) {
            if (lines[i].matches(" {4}( {4})?\\w.*\\) \\{")) {
                String end = lines[i].replaceAll("\\S.*", "") + "}";
                int last = i;
                while (last < lines.length && !lines[last].equals(end)) {
                    last++;
                }
                Due.holds(lines[i].trim() + " has at most sixty lines", last - i < 60);
            }
        }
    }

    /** All calls of one run live in one room, so only the constructor makes objects. */
    private static void noCallMakesAnObject() {
        var bean = (com.sun.management.ThreadMXBean) ManagementFactory.getThreadMXBean();
        long self = Thread.currentThread().getId();
        LittleSums x = new LittleSums();
        everyCall(x);
        long start = bean.getThreadAllocatedBytes(self);
        for (int i = 0; i < 100; i++) {
            everyCall(x);
        }
        long made = bean.getThreadAllocatedBytes(self) - start;
        Due.holds("2,600 calls made " + made + " bytes", made < 2600);
        start = bean.getThreadAllocatedBytes(self);
        for (int i = 0; i < 100; i++) {
            x = new LittleSums();
        }
        made = (bean.getThreadAllocatedBytes(self) - start) / 100;
        Due.holds("one object has " + made + " bytes", made < 4000);
    }

    private static void everyCall(LittleSums x) {
        x.wipe();
        for (int i = 0; i < TEXT.length(); i++) {
            x.write(TEXT.charAt(i));
        }
        x.fault();
        x.lay();
        x.put(0, 5);
        x.take(0, 4);
        x.becomeSums(3, 0, 1);
        x.move(2, 2, 2, 1);
        x.shrink(2, 3, 1);
        x.undo();
        x.member(0, 1);
        x.sum(0, 1, 2);
        x.difference(0, 1, 2);
        x.times(3, 6);
        x.ways(0, 1, 5);
        x.energy(3);
        x.cover(3, 1);
        x.grid(3, 1);
        x.alike(0, 1);
        x.partner(1, 0, 1);
        x.swell(3, 1, 2);
        x.floor(0, 1);
        x.tight(0, 1);
        x.room(3);
        x.smallest(5, 12, 1);
        x.count(6);
    }
}
