import java.io.IOException;
import java.lang.reflect.Constructor;
import java.lang.reflect.Field;
import java.lang.reflect.Method;
import java.lang.reflect.Modifier;
import java.nio.file.Files;
import java.nio.file.Path;
import java.util.ArrayList;
import java.util.List;
import java.util.Set;
import java.util.TreeSet;
import java.util.regex.Matcher;
import java.util.regex.Pattern;

/** The face of the class, and the rules of LANGUAGE.md that can be seen from outside. */
public final class LanguageTest {
    private static final Check CHECK = new Check("LanguageTest");
    private static final String FACE = "feed(iiiii)i end(i)i treaty()i fault(i)i tribe(ii)i move(ii)i "
            + "worth(ii)i slip(ii)i take(ii)i rain()i give(i)i night()i undo()b redo()b way(ii)i "
            + "surest(iii)i makes(i)i hands(ii)i deal(ii)i fair()i good()i round(i)i near(i)i both(ii)i "
            + "clumsy(i)i idle()i ends()i sources()i will(ii)i mirror(i)i lies(i)i seen(iib)i "
            + "felt(iib)i untell(i)b later(i)i rows(i)i sure(ii)i ask(ii)i image(i)i back(i)i about(i)i";
    private static final String[] BANNED = {"\\bthrow\\b", "\\bthrows\\b", "\\btry\\b", "\\bcatch\\b",
        "\\bsynchronized\\b", "\\bassert\\b", "->", "::", "Exact\\b", "\\bpackage\\b", "static \\{",
        "\\bvar\\b", "\\bprotected\\b", "\\bSystem\\.(?!arraycopy)", "\"[^\"\n]*\" *\\+",
        "\\bimport (?!java\\.util\\.Arrays;)", "\\bArrays\\.(?!fill\\()", "\\bInteger\\.(?!bitCount)",
        "\\bMath\\.(?!min|max)", "while \\(true\\)", "for \\(;;\\)", "[^\n\\x20-\\x7e]"};

    public static void main(String[] args) throws IOException {
        document(Path.of("../shared/DOC.md"));
        face();
        members();
        source(Files.readString(Path.of("src/main/java/CradleTreaty.java")));
        CHECK.finish();
    }

    /** That the face here is the document's: once as a whole, and once promise by promise. */
    private static void document(Path path) throws IOException {
        CHECK.due("NONE", -1, CradleTreaty.NONE);
        if (!Files.exists(path)) {
            System.out.println("LanguageTest: the document is not at " + path + ", its face is not looked at");
            return;
        }
        String text = Files.readString(path);
        Set<String> want = new TreeSet<>(List.of(FACE.split(" ")));
        Set<String> whole = signatures("    public (int|boolean) (\\w+)\\((.*)\\);", text);
        CHECK.due("the document's face is " + whole, true, want.equals(whole));
        Set<String> promised = signatures("`(int|boolean) (\\w+)\\(([^)]*)\\)`: ", text);
        CHECK.due("the promises are of " + promised, true, want.equals(promised));
    }

    private static Set<String> signatures(String form, String text) {
        Set<String> found = new TreeSet<>();
        for (Matcher row = Pattern.compile(form).matcher(text); row.find();) {
            String types = row.group(3).replaceAll("(\\w)\\w* \\w+(, )?", "$1");
            found.add(row.group(2) + "(" + types + ")" + row.group(1).charAt(0));
        }
        return found;
    }

    private static void face() {
        Set<String> want = new TreeSet<>(List.of(FACE.split(" ")));
        Set<String> got = new TreeSet<>();
        for (Method method : CradleTreaty.class.getDeclaredMethods()) {
            boolean isPublic = Modifier.isPublic(method.getModifiers());
            CHECK.due("private or public: " + method, true,
                    isPublic || Modifier.isPrivate(method.getModifiers()));
            if (isPublic) {
                StringBuilder text = new StringBuilder(method.getName()).append('(');
                for (Class<?> type : method.getParameterTypes()) {
                    text.append(type.getName().charAt(0));
                }
                got.add(text.append(')').append(method.getReturnType().getName().charAt(0)).toString());
            }
        }
        CHECK.due("the face is " + got, true, want.equals(got));
        Constructor<?>[] makers = CradleTreaty.class.getDeclaredConstructors();
        CHECK.due("constructors", 1, makers.length);
        CHECK.due("without numbers", 0, makers[0].getParameterCount());
        CHECK.due("final", true, Modifier.isFinal(CradleTreaty.class.getModifiers()));
        for (Field field : CradleTreaty.class.getDeclaredFields()) {
            CHECK.due("private: " + field, !field.getName().equals("NONE"),
                    Modifier.isPrivate(field.getModifiers()));
        }
    }

    private static void members() {
        List<Class<?>> all = new ArrayList<>(List.of(CradleTreaty.class.getDeclaredClasses()));
        all.add(CradleTreaty.class);
        CHECK.due("twelve classes at most: " + all.size(), true, all.size() <= 12);
        Set<String> names = new TreeSet<>();
        for (String method : FACE.split(" ")) {
            names.add(method.replaceFirst("\\(.*", ""));
        }
        for (Class<?> one : all) {
            CHECK.due("static: " + one, one != CradleTreaty.class, Modifier.isStatic(one.getModifiers()));
            int fields = 0;
            for (Field field : one.getDeclaredFields()) {
                boolean isStatic = Modifier.isStatic(field.getModifiers());
                fields += isStatic ? 0 : 1;
                CHECK.due("final: " + field, true, !isStatic || Modifier.isFinal(field.getModifiers()));
            }
            CHECK.due("twenty fields at most: " + one + " " + fields, true, fields <= 20);
            for (Method method : one.getDeclaredMethods()) {
                CHECK.due("at most seven numbers: " + method, true, method.getParameterCount() <= 7);
                CHECK.due("a name of the face: " + method, one == CradleTreaty.class
                        && Modifier.isPublic(method.getModifiers()), names.contains(method.getName()));
            }
        }
    }

    private static void source(String text) {
        String code = text.replaceAll("(?s)/\\*.*?\\*/", "").replaceAll("//[^\n]*", "");
        for (String banned : BANNED) {
            Matcher found = Pattern.compile(banned).matcher(code);
            CHECK.due("found " + banned, false, found.find());
        }
        int from = 0;
        String[] lines = text.split("\n");
        for (int i = 0; i < lines.length; i++) {
            if (lines[i].matches(" {4}( {4})?[a-z].*\\{")) {
                from = i;
            }
            if (lines[i].matches(" {4}( {4})?\\}") && !lines[from].contains(" class ")) {
                CHECK.due("sixty lines at most: " + lines[from], true, i - from < 60);
            }
        }
    }
}
