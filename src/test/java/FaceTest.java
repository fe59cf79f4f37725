import java.io.IOException;
import java.lang.reflect.Constructor;
import java.lang.reflect.Field;
import java.lang.reflect.Method;
import java.lang.reflect.Modifier;
import java.nio.file.Files;
import java.nio.file.Path;
import java.util.Arrays;
import java.util.Set;
import java.util.TreeSet;
import java.util.regex.Matcher;
import java.util.regex.Pattern;

/** The document's face, no more and no less, and what LANGUAGE.md rules out that a look at the source can tell. */
public final class FaceTest {
    private static final String[] FACE = {"write(int)", "wipe()", "fault()", "lay()", "clog(int,int)", "feet(int,int)",
        "pass(int)", "come(int,int,int,int)", "go(int,int)", "hole(int)", "undo()", "mates(int)", "pairs(int)",
        "leftOver(int)", "served()", "whose(int)", "alikeBy(int,int)", "dry(int,int)", "sawn(int)", "sizes(int,int)",
        "heard(int,int,int)", "forget()", "thick(int)", "whole(int,int,int)", "together(int,int)", "year(int,int,int)",
        "keep()", "back()", "count(int)"};
    private static final String RULED_OUT = "\\b(throw|throws|try|catch|synchronized|assert|finally|new Object|Object|static \\{"
        + "|equals|hashCode|toString|double|float|[a-z]+Exact|record)\\b|->|::|System\\.(?!arraycopy)|@";
    private static final Check check = new Check();

    public static void main(String[] args) throws IOException {
        constants();
        members();
        nested(LeftAndRight.class.getDeclaredClasses());
        source(Files.readString(Path.of(args.length > 0 ? args[0] : "src/main/java/LeftAndRight.java")));
        check.end("FaceTest");
    }

    private static void constants() {
        check.due("BAD", LeftAndRight.BAD, -1);
        check.due("NO", LeftAndRight.NO, -2);
        check.due("FULL", LeftAndRight.FULL, -3);
        check.due("NONE", LeftAndRight.NONE, -4);
    }

    private static String signature(Method method) {
        StringBuilder types = new StringBuilder();
        for (Class<?> type : method.getParameterTypes()) {
            types.append(types.length() == 0 ? "" : ",").append(type.getName());
        }
        return method.getName() + "(" + types + ")";
    }

    private static void members() {
        Class<?> face = LeftAndRight.class;
        check.due("its modifiers", face.getModifiers(), Modifier.PUBLIC | Modifier.FINAL);
        Set<String> visible = new TreeSet<>();
        Set<String> publicNames = new TreeSet<>();
        for (Method method : face.getDeclaredMethods()) {
            if (!Modifier.isPrivate(method.getModifiers())) {
                visible.add(signature(method));
                publicNames.add(method.getName());
                check.due(signature(method) + ", modifiers", method.getModifiers(), Modifier.PUBLIC);
                check.isSo(signature(method) + " answers an int", method.getReturnType() == int.class);
            }
        }
        check.isSo("the face is " + visible, visible.equals(new TreeSet<>(Arrays.asList(FACE))));
        for (Method method : face.getDeclaredMethods()) {
            boolean twice = Modifier.isPrivate(method.getModifiers()) && publicNames.contains(method.getName());
            check.isSo("no private method is named " + method.getName(), !twice);
        }
        for (Constructor<?> constructor : face.getDeclaredConstructors()) {
            check.isSo("the constructor", Modifier.isPublic(constructor.getModifiers()) && constructor.getParameterCount() == 0);
        }
        for (Field field : face.getDeclaredFields()) {
            boolean told = Set.of("BAD", "NO", "FULL", "NONE").contains(field.getName());
            check.isSo("field " + field.getName(), told ? Modifier.isPublic(field.getModifiers()) : Modifier.isPrivate(field.getModifiers()));
            check.isSo("static " + field.getName(), !Modifier.isStatic(field.getModifiers()) || Modifier.isFinal(field.getModifiers()));
        }
    }

    private static void nested(Class<?>[] classes) {
        check.isSo("some twelve classes", classes.length <= 11);
        for (Class<?> inside : classes) {
            int modifiers = inside.getModifiers();
            check.isSo(inside + " is static and not public", Modifier.isStatic(modifiers)
                && !Modifier.isPublic(modifiers) && !Modifier.isProtected(modifiers));
            check.isSo(inside + " has some twenty fields", inside.getDeclaredFields().length <= 20);
        }
    }

    private static void source(String text) {
        String code = text.replaceAll("(?s)/\\*.*?\\*/", "").replaceAll("//[^\n]*", "").replaceAll("\"[^\"]*\"", "\"\"");
        Matcher matcher = Pattern.compile(RULED_OUT).matcher(code);
        while (matcher.find()) {
            check.isSo("the source is without " + matcher.group(), false);
        }
        Matcher imports = Pattern.compile("import ([^;]*);").matcher(code);
        while (imports.find()) {
            check.isSo("import " + imports.group(1), Set.of("java.util.Arrays", "java.util.ArrayList", "java.util.List").contains(imports.group(1)));
        }
        check.isSo("no package line", !code.contains("package "));
        check.isSo("no other sign than 1 to 127", text.chars().allMatch(sign -> sign >= 1 && sign <= 127));
        check.isSo("no loop without a bound", !code.contains("while (true)") && !code.contains("for (;;)"));
    }
}
