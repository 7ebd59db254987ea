import java.io.IOException;
import java.lang.reflect.Constructor;
import java.lang.reflect.Field;
import java.lang.reflect.Method;
import java.lang.reflect.Modifier;
import java.nio.charset.StandardCharsets;
import java.nio.file.Files;
import java.nio.file.Path;
import java.util.Set;
import java.util.TreeSet;
import java.util.regex.Pattern;

/** The face of the document and those rules of LANGUAGE.md that can be looked up in the class or its source. */
public final class RulesTest {
    private static final Kit KIT = new Kit("RulesTest");
    // As the document writes them, without the names of what is handed over.
    private static final String[] FACE = {
        "int feed(int,int,int,int,int)", "int text(int)", "int fault(int)", "int named(int,int)",
        "int thought(int,int) throws IndexOutOfBoundsException, NoSuchElementException", "int man(int,int)",
        "int reader(int,int)", "long law(int,int)", "boolean hide(int,int)", "int buy(int,int)",
        "boolean round(int,int)", "boolean rate(int)", "int weeks(int)", "int ahead(int,int)", "int likely(int)",
        "int bestRound(int)", "int hideIn(int,int)", "int bestRate(int,int)", "int worthless()",
        "int share(int,int,int)", "int chain(int)", "int rests()", "int rest(int)", "int first()",
        "int farthing(int)", "int enough(int)", "int vote(int,int,int)", "int whose(int,int)", "int debtor()",
        "int nextRead(int)", "int richest(int)", "int holds(int)", "int hidden()", "int find(int,int,boolean)",
        "int strike(int)", "boolean known(int)", "int skills(int)", "int chance(int,int,int)",
        "int tried(int,int,int)", "int undo()", "int keep()", "int back()", "int count(int)"};
    private static final String[] FORBIDDEN = {"\\bcatch\\b", "\\btry\\b", "\\bfinally\\b", "->", "::", "\\bassert\\b",
        "\\bsynchronized\\b", "static \\{", "\\bSystem\\.(?!arraycopy)", "Exact\\(", "\\bRandom\\b", "\\bThread\\b",
        "\\btoString\\b", "\\bhashCode\\b", "\\bequals\\b", "\\bvar\\b", "\\bprotected\\b", "\\bdouble\\b", "\\bfloat\\b",
        "\\bNullPointerException\\b", "\\bArrayIndexOutOfBoundsException\\b", "\\[\\]\\["};

    public static void main(String[] args) throws IOException {
        face();
        insides(ThoughtTax.class);
        source();
        KIT.end();
    }

    private static Set<String> faceNames() {
        Set<String> names = new TreeSet<>();
        for (String signature : FACE) {
            names.add(signature.substring(signature.indexOf(' ') + 1, signature.indexOf('(')));
        }
        return names;
    }

    private static String namesOf(Class<?>[] types) {
        StringBuilder b = new StringBuilder();
        for (Class<?> type : types) {
            b.append(b.length() > 0 ? "," : "").append(type.getSimpleName());
        }
        return b.toString();
    }

    private static String signatureOf(Method m) {
        String thrown = namesOf(m.getExceptionTypes()).replace(",", ", ");
        return m.getReturnType().getSimpleName() + " " + m.getName() + "(" + namesOf(m.getParameterTypes()) + ")"
            + (thrown.isEmpty() ? "" : " throws " + thrown);
    }

    private static void face() {
        Set<String> want = new TreeSet<>(Set.of(FACE));
        Set<String> got = new TreeSet<>();
        for (Method m : ThoughtTax.class.getDeclaredMethods()) {
            if (Modifier.isPublic(m.getModifiers())) {
                got.add(signatureOf(m));
                KIT.due("of an object: " + m, Modifier.isStatic(m.getModifiers()), false);
            } else {
                KIT.due("private: " + m, Modifier.isPrivate(m.getModifiers()), true);
                KIT.due("no public one's name: " + m, faceNames().contains(m.getName()), false);
            }
        }
        KIT.due("the methods", String.join("\n", got) + "\n", String.join("\n", want) + "\n");
        for (Field f : ThoughtTax.class.getDeclaredFields()) {
            KIT.due("NONE alone is not private: " + f, Modifier.isPrivate(f.getModifiers()), !f.getName().equals("NONE"));
        }
        for (Constructor<?> c : ThoughtTax.class.getDeclaredConstructors()) {
            KIT.due("the public constructor: " + c, Modifier.isPublic(c.getModifiers()) && c.getParameterCount() == 0, true);
        }
        KIT.due("final", Modifier.isFinal(ThoughtTax.class.getModifiers()), true);
        KIT.due("NONE", ThoughtTax.NONE, -1);
    }

    private static void insides(Class<?> outer) {
        KIT.due("classes, some twelve at most", outer.getDeclaredClasses().length <= 12, true);
        for (Class<?> inside : outer.getDeclaredClasses()) {
            int fields = 0;
            KIT.due("static: " + inside, Modifier.isStatic(inside.getModifiers()), true);
            KIT.due("not public: " + inside, Modifier.isPublic(inside.getModifiers()), false);
            for (Field f : inside.getDeclaredFields()) {
                fields += Modifier.isStatic(f.getModifiers()) ? 0 : 1;
                KIT.due("static fields are final: " + f, !Modifier.isStatic(f.getModifiers()) || Modifier.isFinal(f.getModifiers()), true);
            }
            KIT.due("fields of " + inside + ", some twenty at most", fields <= 20, true);
            for (Method m : inside.getDeclaredMethods()) {
                KIT.due("seven parameters at most: " + m, m.getParameterCount() <= 7, true);
                KIT.due("no name of the face: " + m, faceNames().contains(m.getName()), false);
            }
        }
    }

    private static void source() throws IOException {
        String source = Files.readString(Path.of("src/main/java/ThoughtTax.java"), StandardCharsets.ISO_8859_1);
        String code = source.replaceAll("(?s)/\\*.*?\\*/", "").replaceAll("//[^\n]*", "");
        for (String forbidden : FORBIDDEN) {
            KIT.due("the source has " + forbidden, Pattern.compile(forbidden).matcher(code).find(), false);
        }
        KIT.due("no sign above 127", source.chars().allMatch(c -> c < 128), true);
        KIT.due("no package", Pattern.compile("(?m)^package").matcher(code).find(), false);
    }
}
