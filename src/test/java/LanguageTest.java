import java.io.IOException;
import java.lang.management.ManagementFactory;
import java.lang.reflect.Constructor;
import java.lang.reflect.Field;
import java.lang.reflect.Method;
import java.lang.reflect.Modifier;
import java.nio.file.Files;
import java.nio.file.Path;
import java.util.ArrayList;
import java.util.Arrays;
import java.util.List;
import java.util.Set;
import java.util.TreeSet;
import java.util.regex.Matcher;
import java.util.regex.Pattern;

/** The rules of LANGUAGE.md that a machine can see: the face, forbidden words, sizes, and that calls make nothing. */
public final class LanguageTest {
    private static final Path SOURCE = Path.of("src/main/java/DayFines.java");
    private static final String FACE = "person:1 is:2 couple:2 part:1 fact:5 known:4 custody:2 days:1 rule:2 deed:4 isOf:2 "
            + "told:2 flat:2 feed:3 trim:1 law:0 worth:1 sum:3 judge:1 about:2 appeal:3 reopen:1 pay:2 back:1 step:1 "
            + "work:2 level:1 month:2 room:2 tell:1 check:1 alike:2 unlike:0 spread:1 slip:2 keep:0 again:0 sheet:2 "
            + "mark:3 copy:5 count:1";
    private static final Set<String> CONSTANTS = Set.of("BAD", "NO", "FULL", "NONE", "NOTHING", "INDEX", "SIZE");

    private static int wrong = 0;

    private static void must(boolean holds, String what) {
        if (holds) return;
        wrong++;
        System.out.println("not so: " + what);
    }

    private static void face() {
        Set<String> due = new TreeSet<>(Arrays.asList(FACE.split(" ")));
        Set<String> found = new TreeSet<>();
        for (Method m : DayFines.class.getDeclaredMethods()) {
            if (Modifier.isPrivate(m.getModifiers()) || m.isSynthetic()) continue;
            must(Modifier.isPublic(m.getModifiers()) && m.getReturnType() == int.class, "public int " + m.getName());
            found.add(m.getName() + ":" + m.getParameterCount());
        }
        must(found.equals(due), "the methods are those of the document: " + found);
        Constructor<?>[] made = DayFines.class.getDeclaredConstructors();
        must(made.length == 1 && Modifier.isPublic(made[0].getModifiers()), "one public constructor");
        must(made[0].getParameterCount() == 0, "a constructor without parameters");
        int mods = DayFines.class.getModifiers();
        must(Modifier.isPublic(mods) && Modifier.isFinal(mods), "a public final class");
        for (Field f : DayFines.class.getDeclaredFields()) {
            boolean isOpen = !Modifier.isPrivate(f.getModifiers());
            must(isOpen == CONSTANTS.contains(f.getName()), "visibility of " + f.getName());
        }
    }

    private static void inside() {
        Set<String> names = new TreeSet<>();
        for (String one : FACE.split(" ")) names.add(one.substring(0, one.indexOf(':')));
        List<Class<?>> all = new ArrayList<>(List.of(DayFines.class.getDeclaredClasses()));
        must(all.size() < 12, "at most twelve classes");
        for (Class<?> c : all) must(Modifier.isStatic(c.getModifiers()), c + " is static");
        all.add(DayFines.class);
        for (Class<?> c : all) {
            int fields = 0;
            for (Field f : c.getDeclaredFields()) {
                if (Modifier.isStatic(f.getModifiers())) must(Modifier.isFinal(f.getModifiers()), f + " is final");
                else fields++;
            }
            must(fields <= 20, "at most twenty fields in " + c);
            for (Method m : c.getDeclaredMethods()) {
                must(m.getParameterCount() <= 7, "at most seven parameters: " + m);
                boolean isFace = c == DayFines.class && Modifier.isPublic(m.getModifiers());
                must(isFace || !names.contains(m.getName()), "no other method bears a public name: " + m);
            }
        }
    }

    private static void words() throws IOException {
        String text = Files.readString(SOURCE);
        must(text.chars().allMatch(c -> c == '\n' || c >= 32 && c < 127), "plain signs alone");
        String code = text.replaceAll("(?s)/\\*.*?\\*/", "").replaceAll("//[^\n]*", "");
        String[] forbidden = {"throw", "throws", "try", "catch", "finally", "synchronized", "assert", "import", "package",
            "double", "float", "Object", "protected", "native", "volatile", "transient", "equals", "hashCode", "toString",
            "->", "::", "\\w*Exact", "yield", "var"};
        for (String word : forbidden) {
            String edge = Character.isLetter(word.charAt(0)) || word.startsWith("\\") ? "\\b" : "";
            Matcher m = Pattern.compile(edge + word + edge).matcher(code);
            must(!m.find(), "no '" + word + "'");
        }
        Matcher library = Pattern.compile("\\b(Math|System|Integer|Long|Arrays)\\.(\\w+)").matcher(code);
        Set<String> allowed = Set.of("Math.max", "Math.min", "Math.abs", "System.arraycopy");
        while (library.find()) must(allowed.contains(library.group()), "the library's " + library.group());
    }

    private static void lengths() throws IOException {
        int begun = -1;
        List<String> lines = Files.readAllLines(SOURCE);
        for (int i = 0; i < lines.size(); i++) {
            String line = lines.get(i);
            must(line.length() <= 120, "line " + (i + 1) + " has 120 signs at most");
            boolean isHead = line.matches("( {4}| {8})\\S.*\\) \\{") && !line.matches("\\s*(if|for|while|switch)\\b.*");
            if (isHead) begun = i;
            if (begun >= 0 && line.matches("( {4}| {8})}")) must(i - begun <= 60, "a short method at line " + (begun + 1));
        }
    }

    private static int busyRun() {
        DayFines x = new DayFines();
        for (int i = 0; i < 12; i++) x.person(i % 4);
        for (int i = 0; i < 96; i++) x.fact(i % 12, i / 12 % 3 == 1 ? 0 : i / 12 % 3, 0, 7 + i % 3, i * 20);
        for (int i = 0; i < 12; i += 2) x.couple(i, i + 1);
        long made = bytesSoFar();
        int sink = 0;
        for (int round = 0; round < 30; round++) {
            x.feed(0x64617973, 0x20672b70, 0x20202020);
            x.feed(0x73756d20, 0x31206f72, 0x20202020);
            x.trim(12);
            sink += x.law();
            x.feed(0x64617973, 0x20672073, 0x756d2039);
            x.feed(0x20686f75, 0x72732075, 0x20202020);
            sink += x.law() + x.deed(round % 4, round % 12, 0, 1 + round) + x.judge(round % 12);
            sink += x.level(round % 12) + x.month(round % 12, 3) + x.check(round % 12) + x.unlike() + x.spread(0);
            sink += x.keep() + x.again() + x.sheet(0, 24) + x.slip(0, 0) + x.copy(0, 0, 0, 1, 9) + x.about(0, 11);
        }
        long more = bytesSoFar() - made;
        return sink == 0 ? -1 : (int) more;
    }

    private static long bytesSoFar() {
        com.sun.management.ThreadMXBean threads = (com.sun.management.ThreadMXBean) ManagementFactory.getThreadMXBean();
        return threads.getThreadAllocatedBytes(Thread.currentThread().getId());
    }

    private static void nothingMade() {
        int least = Integer.MAX_VALUE;
        // the first runs load classes, and the asking itself may make something
        for (int i = 0; i < 20; i++) least = Math.min(least, busyRun());
        must(least >= 0 && least < 1000, "calls make nothing: " + least + " bytes");
    }

    public static void main(String[] args) throws IOException {
        face();
        inside();
        words();
        lengths();
        nothingMade();
        System.out.println(wrong == 0 ? "the language is kept" : wrong + " rules are not kept");
        if (wrong != 0) System.exit(1);
    }
}
