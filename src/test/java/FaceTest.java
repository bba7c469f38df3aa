import java.io.IOException;
import java.lang.reflect.Constructor;
import java.lang.reflect.Field;
import java.lang.reflect.Method;
import java.lang.reflect.Modifier;
import java.nio.charset.StandardCharsets;
import java.nio.file.Files;
import java.nio.file.Path;
import java.util.Arrays;
import java.util.Set;
import java.util.TreeSet;
import java.util.regex.Matcher;
import java.util.regex.Pattern;
import java.util.stream.Collectors;

/** The face of the class, and the rules of LANGUAGE.md that can be seen from the class or its text. */
public final class FaceTest {
    private static final Path SOURCE = Path.of("src/main/java/TonguerootFamily.java");
    private static final Path DOCUMENT = Path.of("../shared/DOC.md");
    private static final int MOST_CLASSES = 12;
    private static final int MOST_FIELDS = 20;
    private static final int MOST_PARAMETERS = 7;

    public static void main(String[] args) throws IOException {
        faceOfTheDocument();
        nothingElseIsSeen();
        classesInside();
        wordsThatAreRuledOut();
        Check.end();
    }

    private static String shortName(Class<?> type) {
        return type.getSimpleName();
    }

    private static String signature(Method method) {
        String parameters = Arrays.stream(method.getParameterTypes()).map(FaceTest::shortName)
            .collect(Collectors.joining(","));
        String thrown = Arrays.stream(method.getExceptionTypes()).map(FaceTest::shortName)
            .collect(Collectors.joining(","));
        return shortName(method.getReturnType()) + " " + method.getName() + "(" + parameters + ") " + thrown;
    }

    private static void faceOfTheDocument() throws IOException {
        String text = Files.readString(DOCUMENT);
        Pattern row = Pattern.compile("    public (int|long|double|boolean) (\\w+)\\((.*?)\\)(?: throws (.*?))?;");
        Set<String> due = new TreeSet<>();
        Matcher each = row.matcher(text);
        while (each.find()) {
            String parameters = each.group(3).replaceAll(" \\w+(, |$)", ",").replaceAll(",$", "");
            String thrown = each.group(4) == null ? "" : each.group(4).replace(", ", ",");
            due.add(each.group(1) + " " + each.group(2) + "(" + parameters + ") " + thrown);
        }
        Set<String> there = Arrays.stream(TonguerootFamily.class.getDeclaredMethods())
            .filter(method -> Modifier.isPublic(method.getModifiers())).map(FaceTest::signature)
            .collect(Collectors.toCollection(TreeSet::new));
        Check.due("the public methods", due, () -> there);
        Check.due("how many", 33, () -> there.size());
    }

    private static void nothingElseIsSeen() {
        Class<?> face = TonguerootFamily.class;
        Check.due("public and final", Modifier.PUBLIC | Modifier.FINAL, () -> face.getModifiers());
        Constructor<?>[] constructors = face.getDeclaredConstructors();
        Check.due("one constructor", 1, () -> constructors.length);
        Check.due("a public one", Modifier.PUBLIC, () -> constructors[0].getModifiers());
        for (Field field : face.getDeclaredFields()) {
            Check.due("private: " + field.getName(), true, () -> Modifier.isPrivate(field.getModifiers()));
        }
        Set<String> shown = new TreeSet<>();
        for (Method method : face.getDeclaredMethods()) {
            if (Modifier.isPublic(method.getModifiers())) {
                shown.add(method.getName());
            }
        }
        for (Method method : face.getDeclaredMethods()) {
            boolean hidden = Modifier.isPrivate(method.getModifiers());
            boolean good = hidden != shown.contains(method.getName());
            Check.due("public of the face, or private by another name: " + method.getName(), true, () -> good);
        }
        for (Class<?> inside : face.getDeclaredClasses()) {
            for (Method method : inside.getDeclaredMethods()) {
                Check.due("no name of the face inside: " + method.getName(), false,
                    () -> shown.contains(method.getName()));
            }
        }
    }

    private static void classesInside() {
        Class<?>[] inside = TonguerootFamily.class.getDeclaredClasses();
        Check.due("not too many classes", true, () -> inside.length < MOST_CLASSES);
        look(TonguerootFamily.class);
        for (Class<?> each : inside) {
            Check.due("static: " + each, true, () -> Modifier.isStatic(each.getModifiers()));
            Check.due("not shown: " + each, false, () -> Modifier.isPublic(each.getModifiers()));
            look(each);
        }
    }

    private static void look(Class<?> each) {
        int fields = 0;
        for (Field field : each.getDeclaredFields()) {
            boolean fixed = Modifier.isStatic(field.getModifiers());
            fields += fixed ? 0 : 1;
            Check.due("a static field is final: " + field, true, () -> !fixed || Modifier.isFinal(field.getModifiers()));
        }
        boolean few = fields <= MOST_FIELDS;
        Check.due("not too many fields: " + each, true, () -> few);
        for (Method method : each.getDeclaredMethods()) {
            Check.due("not too many parameters: " + method, true, () -> method.getParameterCount() <= MOST_PARAMETERS);
        }
    }

    private static void wordsThatAreRuledOut() throws IOException {
        String text = Files.readString(SOURCE, StandardCharsets.ISO_8859_1);
        for (String word : new String[] {"->", "::", "try", "catch", "finally", "synchronized", "assert", "Object",
            "System", "static {", "hashCode", "equals", "toString", "Exact", "package", "Random", "Thread"}) {
            String bounded = Character.isLetter(word.charAt(0)) ? "\\b" + Pattern.quote(word) : Pattern.quote(word);
            Check.due("ruled out: " + word, false, () -> Pattern.compile(bounded).matcher(text).find());
        }
        Pattern imported = Pattern.compile("^import (.*);", Pattern.MULTILINE);
        Set<String> imports = imported.matcher(text).results().map(found -> found.group(1))
            .collect(Collectors.toCollection(TreeSet::new));
        Check.due("imports", Set.of("java.util.ArrayList", "java.util.Arrays").stream()
            .collect(Collectors.toCollection(TreeSet::new)), () -> imports);
    }
}
