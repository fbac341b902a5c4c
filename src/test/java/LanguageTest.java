import java.io.IOException;
import java.lang.reflect.Constructor;
import java.lang.reflect.Field;
import java.lang.reflect.Method;
import java.lang.reflect.Modifier;
import java.nio.file.Files;
import java.nio.file.Path;
import java.util.ArrayList;
import java.util.Arrays;
import java.util.List;
import java.util.Set;
import java.util.TreeSet;
import java.util.regex.Matcher;
import java.util.regex.Pattern;

/** The class has the document's face and no other, and keeps to LANGUAGE.md as far as its text can tell. */
public final class LanguageTest {
    private static final String[] FACE = {
        "int feed(int,int,int,int,int)", "int text(int,int)", "int fault(int)", "int run(int,int,int,int)",
        "int speed(int,int)", "int point(int,int)", "int felt(int,int,int)", "int feels(int,int,boolean)",
        "int odds(int,int,int,int,int)", "int row(int,int,int,int)", "int leaves(int,int)", "int time(int,int)",
        "int holds(int,int,int,int,int)", "int beat(int,int,int,int)", "int log(int,int,int,int)", "int fits(int)",
        "int worn()", "int stair(int)", "int walk(int,int)", "int worst(int)", "int test(int,int)", "int cover(int,int)",
        "int part(int,int)", "int age(int)", "int days(int,int)", "int first(int)", "int restart(int,int)",
        "int valley(int)", "int group(int,int)", "int trains(int,int,int)", "int cross(int,int,int,int,int,int,int)",
        "int clear(int,int,int,int,int,int)", "int stay(int,int,int,int)", "int led(int,int)", "int leads(int,int)",
        "int quiet()", "int grow(int,int,int)", "int growths(int)", "int foretold(int,boolean)",
        "int operator(int,int,int)", "int crew(int,int)", "int bare()", "int lift(int,int,int)", "int slips(int,int)",
        "int stretched(int,int)", "int riders(int,int,int,int,int)", "int store(int,int,int)", "long write(int,int,long)",
        "int storm(int,int)", "int keep(int,int)", "int image(int)", "int restore(int)", "int count(int)"};
    private static final String[] BANNED = {
        "throw", "throws", "try", "catch", "finally", "synchronized", "assert", "->", "::", "new Object", "Exact", "System.out",
        "java.util.Random", "Thread", "nanoTime", "currentTimeMillis", "@Override", "protected", "NaN"};

    private static final Pattern LIBRARY = Pattern.compile(
        "\\b(Math|Integer|Long|Arrays|System|String|StringBuilder|List|ArrayList|Character|Objects|Collections)\\.(\\w+)");
    private static final Set<String> ALLOWED = Set.of(
        "Math.abs", "Math.max", "Math.min", "Math.floorDiv", "Math.floorMod", "Integer.bitCount", "Integer.compare",
        "Integer.lowestOneBit", "Integer.numberOfTrailingZeros", "Long.bitCount", "Long.compare", "Arrays.copyOf",
        "Arrays.copyOfRange", "Arrays.fill", "List.of", "System.arraycopy");

    public static void main(String[] args) throws IOException {
        face();
        ownMethods();
        text(Files.readAllLines(Path.of("src/main/java/CoasterDay.java")));
        Check.end();
    }

    private static void face() {
        Check.promise("LANGUAGE 1");
        Set<String> got = new TreeSet<>();
        for (Method m : CoasterDay.class.getDeclaredMethods()) {
            if (!Modifier.isPrivate(m.getModifiers()) && !m.isSynthetic()) {
                Check.due(m.getName() + " is public alone", m.getModifiers(), Modifier.PUBLIC);
                String types = Arrays.toString(Arrays.stream(m.getParameterTypes()).map(Class::getName).toArray());
                got.add(m.getReturnType() + " " + m.getName() + types.replace(" ", "").replace('[', '(').replace(']', ')'));
            }
        }
        Set<String> due = new TreeSet<>(Arrays.asList(FACE));
        Check.due("53 methods", FACE.length, 53);
        Check.due("the face " + got, got.equals(due) ? 1 : 0, 1);
        Check.due("the class", CoasterDay.class.getModifiers(), Modifier.PUBLIC | Modifier.FINAL);
        Constructor<?>[] made = CoasterDay.class.getDeclaredConstructors();
        Check.due("constructors", made.length, 1);
        Check.due("public", made[0].getModifiers(), Modifier.PUBLIC);
        Check.due("without arguments", made[0].getParameterCount(), 0);
        for (Field f : CoasterDay.class.getDeclaredFields()) {
            boolean isNone = f.getName().equals("NONE");
            Check.due(f.getName(), Modifier.isPrivate(f.getModifiers()) || isNone ? 1 : 0, 1);
        }
    }

    private static void ownMethods() {
        Check.promise("LANGUAGE 1, 2, 5, 11");
        Set<String> face = new TreeSet<>();
        for (String f : FACE) {
            face.add(f.replaceAll("^\\w+ (\\w+).*$", "$1"));
        }
        List<Class<?>> all = new ArrayList<>(Arrays.asList(CoasterDay.class.getDeclaredClasses()));
        Check.due("at most some twelve classes", all.size() <= 12 ? 1 : 0, 1);
        for (Class<?> c : all) {
            Check.due(c + " is static", Modifier.isStatic(c.getModifiers()) ? 1 : 0, 1);
            Check.due(c + " is private", Modifier.isPrivate(c.getModifiers()) ? 1 : 0, 1);
        }
        all.add(CoasterDay.class);
        for (Class<?> c : all) {
            int fields = 0;
            for (Field f : c.getDeclaredFields()) {
                boolean isStatic = Modifier.isStatic(f.getModifiers());
                Check.due(f + " is final if it is static", isStatic && !Modifier.isFinal(f.getModifiers()) ? 1 : 0, 0);
                fields += isStatic ? 0 : 1;
            }
            Check.due(c + " has " + fields + " fields", fields <= 20 ? 1 : 0, 1);
            for (Method m : c.getDeclaredMethods()) {
                Check.due(m + " takes at most seven", m.getParameterCount() <= 7 ? 1 : 0, 1);
                boolean isOwn = c != CoasterDay.class || Modifier.isPrivate(m.getModifiers());
                Check.due(m + " bears another name", isOwn && face.contains(m.getName()) ? 1 : 0, 0);
            }
        }
    }

    private static void text(List<String> lines) {
        Check.promise("LANGUAGE 3, 4, 6, 11");
        Pattern method = Pattern.compile("^( {4}| {8})(public |private |static |final )*[\\w\\[\\]]+ ?\\w*\\(.*\\) \\{$");
        int from = -1;
        String indent = "";
        for (int k = 0; k < lines.size(); k++) {
            String line = lines.get(k);
            String code = line.replaceAll("\"[^\"]*\"|//.*$", "");
            if (!line.trim().startsWith("*") && !line.trim().startsWith("/*")) {
                for (String b : BANNED) {
                    String asWord = b.matches("\\w+") ? "\\b" + b + "\\b" : Pattern.quote(b);
                    Check.due("line " + (k + 1) + " has " + b, Pattern.compile(asWord).matcher(code).find() ? 1 : 0, 0);
                }
            }
            Matcher called = LIBRARY.matcher(line.startsWith("import") ? "" : code);
            while (called.find()) {
                Check.due("line " + (k + 1) + " calls " + called.group(), ALLOWED.contains(called.group()) ? 1 : 0, 1);
            }
            if (line.startsWith("import")) {
                Check.due(line, line.matches("import java\\.util\\.(Arrays|ArrayList|List|Iterator);") ? 1 : 0, 1);
            }
            for (int i = 0; i < line.length(); i++) {
                Check.due("line " + (k + 1) + " sign " + (int) line.charAt(i), line.charAt(i) <= 127 ? 1 : 0, 1);
            }
            Matcher m = method.matcher(line);
            if (m.matches() && !line.trim().startsWith("if") && !line.trim().startsWith("for")) {
                from = k;
                indent = m.group(1);
            }
            if (from >= 0 && line.equals(indent + "}")) {
                Check.due("line " + (from + 1) + ": lines of a method", k - from + 1 <= 60 ? 1 : 0, 1);
                from = -1;
            }
        }
    }
}
