import java.io.IOException;
import java.lang.reflect.Constructor;
import java.lang.reflect.Field;
import java.lang.reflect.Member;
import java.lang.reflect.Method;
import java.lang.reflect.Modifier;
import java.nio.file.Files;
import java.nio.file.Path;
import java.util.ArrayList;
import java.util.Arrays;
import java.util.List;
import java.util.Set;
import java.util.TreeSet;
import java.util.regex.Matcher;
import java.util.regex.Pattern;

/** The document's public face, and rules of LANGUAGE.md that can be seen without reading the code. */
final class FaceTest {
    private static final String[] FACE = {"int flue(int)", "int of(int,int)", "int bend(int,int,int)",
        "int layer(int,int,int,int)", "int turn(int,int)", "int as(int,int)", "int damp(int)", "int rises(int,int,int)",
        "int say(int,int,int)", "int cake(int,int,int,int)", "int days(int)", "int now(int)", "int sweep(int,int,int)",
        "int brought(int,int,int)", "int order(int,int,int,int)", "int on(int,int,int,int)", "int reach(int,int,int)",
        "int strength(int,int,int)", "int secret(int,int,int)", "int fewest(int,int)", "int where(int)",
        "int lost(int,int,int)", "int covers(int,int,int)", "int kind(int,int,int)", "int best(int,int)",
        "int richest(int)", "int feed(int,int)", "int wipe()", "int house()", "int sheet(int,int,int)",
        "long write(int,int,long)", "int copy(int,int,int,int,int)", "int lays(int,int)", "int book(int,int)",
        "int read(int,int)", "int image()", "int undo()", "int tear()", "int count(int)", "int status(int)"};

    private static final Path DOC = Path.of("../shared/DOC.md");
    private static final Pattern METHOD =
        Pattern.compile("(?m)^    public (int|long) (\\w+)\\(([^)]*)\\)|^    // (---- .*)$");
    private static final Pattern AHEAD = Pattern.compile("(?m)^Ahead of the calls (.*) the interface says: (---- .*)[.]$");

    public static void main(String[] args) throws IOException {
        face();
        nestedClasses();
        String source = Files.readString(Path.of("src/main/java/SootTalk.java"));
        words(source);
        if (Files.isReadable(DOC)) asInDocument(Files.readString(DOC), source);
        Due.end();
    }

    private static void face() {
        Set<String> seen = new TreeSet<>();
        for (Method m : SootTalk.class.getDeclaredMethods()) {
            if (isPublicOrPrivate(m)) seen.add(told(m));
        }
        Set<String> due = new TreeSet<>(Arrays.asList(FACE));
        Due.is("face: " + seen, seen.equals(due) ? 1 : 0, 1);
        Due.is("face: a final class", SootTalk.class.getModifiers(), Modifier.PUBLIC | Modifier.FINAL);
        Constructor<?>[] made = SootTalk.class.getDeclaredConstructors();
        Due.is("face: constructors", made.length, 1);
        Due.is("face: without arguments", made[0].getParameterCount(), 0);
        Due.is("face: public", made[0].getModifiers(), Modifier.PUBLIC);
        for (Field f : SootTalk.class.getDeclaredFields()) {
            Due.is("rule 1: private " + f.getName(), Modifier.isPrivate(f.getModifiers()) ? 1 : 0, 1);
        }
    }

    /** Public ones are to be told; of the others all must be private. */
    private static boolean isPublicOrPrivate(Member m) {
        boolean isPublic = Modifier.isPublic(m.getModifiers());
        if (!isPublic) Due.is("rule 1: private " + m.getName(), Modifier.isPrivate(m.getModifiers()) ? 1 : 0, 1);
        return isPublic;
    }

    private static String told(Method m) {
        StringBuilder text = new StringBuilder(m.getReturnType() + " " + m.getName() + "(");
        for (Class<?> p : m.getParameterTypes()) text.append(text.charAt(text.length() - 1) == '(' ? "" : ",").append(p);
        return text.append(")").toString();
    }

    private static void nestedClasses() {
        Set<String> names = new TreeSet<>();
        for (String f : FACE) names.add(f.substring(f.indexOf(' ') + 1, f.indexOf('(')));
        Class<?>[] inside = SootTalk.class.getDeclaredClasses();
        Due.is("rule 11: some twelve classes", inside.length <= 12 ? 1 : 0, 1);
        for (Class<?> c : inside) {
            Due.is("rule 2: static " + c, Modifier.isStatic(c.getModifiers()) ? 1 : 0, 1);
            for (Method m : c.getDeclaredMethods()) {
                Due.is("rule 1: name of " + m, names.contains(m.getName()) ? 1 : 0, 0);
                Due.is("rule 11: seven parameters " + m, m.getParameterCount() <= 7 ? 1 : 0, 1);
            }
        }
    }

    /** The document's own face, and what its interface says ahead of which calls, in their order. */
    private static void asInDocument(String doc, String source) {
        Set<String> face = new TreeSet<>();
        Matcher m = METHOD.matcher(doc);
        while (m.find()) {
            String types = m.group(3).replaceAll("(int|long) \\w+", "$1").replace(" ", "");
            face.add(m.group(1) + " " + m.group(2) + "(" + types + ")");
        }
        Due.is("face: as in the document " + face, face.equals(new TreeSet<>(Arrays.asList(FACE))) ? 1 : 0, 1);
        List<String> due = new ArrayList<>();
        for (m = AHEAD.matcher(doc); m.find(); ) {
            due.add(m.group(2));
            due.addAll(Arrays.asList(m.group(1).replace("`", "").split(", ")));
        }
        List<String> seen = new ArrayList<>();
        for (m = METHOD.matcher(source); m.find(); ) {
            String told = m.group(2) == null ? m.group(4) : m.group(2);
            if (due.contains(told)) seen.add(told);
        }
        Due.is("face: ahead of the calls " + seen, seen.equals(due) ? 1 : 0, 1);
    }

    private static void words(String source) {
        String code = source.replaceAll("(?s)/\\*.*?\\*/", "").replaceAll("//[^\n]*", "");
        Matcher m = Pattern.compile("\\b(throw|try|catch|synchronized|assert|import|package|Exact|values)\\b|->|::")
            .matcher(code);
        while (m.find()) Due.is("rules 4 and 6: '" + m.group() + "' at " + m.start(), 1, 0);
        for (int i = 0; i < source.length(); i++) {
            char c = source.charAt(i);
            if (c != '\n' && (c < 32 || c > 126)) Due.is("rule 4: sign at " + i, c, 32);
        }
    }
}
