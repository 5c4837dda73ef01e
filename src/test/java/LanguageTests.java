import java.io.IOException;
import java.lang.reflect.Field;
import java.lang.reflect.Method;
import java.lang.reflect.Modifier;
import java.nio.file.Files;
import java.nio.file.Path;
import java.util.ArrayList;
import java.util.Collections;
import java.util.List;
import java.util.regex.Matcher;
import java.util.regex.Pattern;

/** What of LANGUAGE.md a look at the source and at the compiled class can tell; and the document's face. */
final class LanguageTests {
    private static final Check CHECK = new Check("LanguageTests");
    private static final String FACE = "begin() change(int,int,int,int) changed(int) compared(int,int,int) drift(int,int) fault() feed(int,long) "
        + "fits(int,int) goBack(int) judge() keep(int) lastHand(int,int) laws() like(int,int) make(int,int) makers(int) night(int,int) "
        + "person(int,int) practise(int,int) ring(int) seed(int) skill(int,int) tear() till(int) told(int) town() trade(int,int) want(int,int) "
        + "write(int,int,int) year(int)";

    public static void main(String[] args) throws IOException {
        String source = withoutComments(Files.readString(Path.of("src/main/java/ForgottenCrafts.java")));
        words(source);
        face();
        nested();
        CHECK.end();
    }

    private static String withoutComments(String source) {
        return source.replaceAll("(?s)/\\*.*?\\*/", "").replaceAll("//[^\n]*", "");
    }

    private static void words(String source) {
        String[] ruledOut = {"\\bthrow\\b", "\\bthrows\\b", "\\btry\\b", "\\bcatch\\b", "\\bsynchronized\\b", "\\bassert\\b", "\\bimport\\b", "\\bpackage\\b",
            "->", "::", "\\bvar\\b", "\\bObject\\b", "Exact\\b", "\\bSystem\\.(?!arraycopy)", "\\bstatic\\s*\\{", "\"\\s*\\+", "\\+\\s*\"", "while \\(true\\)",
            "\\bhashCode\\b", "\\btoString\\b", "\\bequals\\b"};
        for (String word : ruledOut) {
            Matcher found = Pattern.compile(word).matcher(source);
            CHECK.isTrue("no " + word, !found.find());
        }
        for (int i = 0; i < source.length(); i++) {
            if (source.charAt(i) > 126) {
                CHECK.due("sign at " + i, source.charAt(i), 0);
            }
        }
    }

    private static void face() {
        List<String> face = new ArrayList<>();
        for (Method m : ForgottenCrafts.class.getDeclaredMethods()) {
            if (!Modifier.isPrivate(m.getModifiers())) {
                List<String> types = new ArrayList<>();
                for (Class<?> type : m.getParameterTypes()) {
                    types.add(type.getName());
                }
                face.add(m.getName() + "(" + String.join(",", types) + ")");
                CHECK.isTrue(m + " is public, answers an int", Modifier.isPublic(m.getModifiers()) && m.getReturnType() == int.class);
            }
        }
        Collections.sort(face);
        CHECK.isTrue("the face: " + face, String.join(" ", face).equals(FACE));
        CHECK.isTrue("final", Modifier.isFinal(ForgottenCrafts.class.getModifiers()));
        CHECK.due("constructors", ForgottenCrafts.class.getConstructors().length, 1);
        CHECK.due("all constructors", ForgottenCrafts.class.getDeclaredConstructors().length, 1);
        CHECK.due("public constants", ForgottenCrafts.class.getFields().length, 5);
        int[] constants = {ForgottenCrafts.NONE, ForgottenCrafts.UNKNOWN, ForgottenCrafts.OUTSIDE, ForgottenCrafts.NOT, ForgottenCrafts.FULL};
        int[] due = {-1, -1000000001, -1000000002, -1000000003, -1000000004};
        for (int i = 0; i < due.length; i++) {
            CHECK.due("constant " + i, constants[i], due[i]);
        }
    }

    private static void nested() {
        List<Class<?>> all = new ArrayList<>(List.of(ForgottenCrafts.class.getDeclaredClasses()));
        CHECK.isTrue("at most twelve classes", all.size() + 1 <= 12);
        all.add(ForgottenCrafts.class);
        for (Class<?> one : all) {
            CHECK.isTrue(one + " is static", one == ForgottenCrafts.class || Modifier.isStatic(one.getModifiers()));
            CHECK.isTrue(one + " is hidden", one == ForgottenCrafts.class || !Modifier.isPublic(one.getModifiers()));
            int own = 0;
            for (Field f : one.getDeclaredFields()) {
                boolean shared = Modifier.isStatic(f.getModifiers());
                own += shared ? 0 : 1;
                CHECK.isTrue(f + " is final, if static", !shared || Modifier.isFinal(f.getModifiers()));
                CHECK.isTrue(f + " is private or of the face", Modifier.isPrivate(f.getModifiers()) || Modifier.isPublic(f.getModifiers()));
            }
            CHECK.isTrue(one + " has some twenty fields at most", own <= 20);
            for (Method m : one.getDeclaredMethods()) {
                boolean named = (" " + FACE).contains(" " + m.getName() + "(");
                CHECK.isTrue(m + " has no public one's name", !named || Modifier.isPublic(m.getModifiers()));
                CHECK.isTrue(m + " takes seven at most", m.getParameterCount() <= 7);
            }
        }
    }
}
