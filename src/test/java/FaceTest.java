import java.io.IOException;
import java.lang.reflect.Constructor;
import java.lang.reflect.Field;
import java.lang.reflect.Method;
import java.lang.reflect.Modifier;
import java.nio.file.Files;
import java.nio.file.Path;
import java.util.Arrays;
import java.util.Set;
import java.util.TreeSet;
import java.util.regex.Matcher;
import java.util.regex.Pattern;
import java.util.stream.Collectors;

/** The document's public face, and those rules of LANGUAGE.md that can be looked up; the argument is the project's folder. */
public final class FaceTest {
    private static final Set<String> FACE = new TreeSet<>(Set.of(
            "int addPoint(int,int,int,int,int,int)", "int removePoint(int)", "int setPoint(int,int,int)",
            "int point(int,int)", "int setWindow(int,int,int,int)", "int pan(int,int)", "int place(int,int,int)",
            "int clash(int,int,int,int)", "int labelAt(int,int)", "int fill()", "int improve()", "int push()",
            "int show(int,int)", "int hideAll()", "int greatest()", "int leaders()", "int leader(int,int)",
            "int type(int)", "int clear()", "int run()", "int count(int)", "long digest()"));
    private static final String[] RULED_OUT = {"throw", "throws", "try", "catch", "finally", "synchronized", "assert",
        "native", "volatile", "transient", "\\w+Exact", "System", "Object", "Runtime", "Thread", "random"};

    /** Its indentation, its result (none for a constructor), and its name. */
    private static final Pattern METHOD = Pattern.compile(
            "( {4}| {8})(?:(?:public|private|static) )*((?:int|long|boolean|void) )?(\\w+)\\(.*\\) \\{");

    public static void main(String[] args) throws IOException {
        constants();
        members();
        classesInside();
        if (args.length > 0) {
            source(Files.readString(Path.of(args[0], "src/main/java/LabelPlacer.java")));
        }
        Due.end();
    }

    private static void constants() {
        Due.is("NONE", LabelPlacer.NONE, -1);
        Due.is("BAD", LabelPlacer.BAD, -2);
        Due.is("STATE", LabelPlacer.STATE, -3);
        Due.is("FULL", LabelPlacer.FULL, -4);
    }

    private static void members() {
        Class<?> it = LabelPlacer.class;
        Due.holds("public and final", Modifier.isPublic(it.getModifiers()) && Modifier.isFinal(it.getModifiers()));
        Constructor<?>[] made = it.getDeclaredConstructors();
        Due.holds("one public constructor without arguments", made.length == 1 && made[0].getParameterCount() == 0
                && Modifier.isPublic(made[0].getModifiers()));
        Set<String> face = new TreeSet<>();
        Set<String> names = new TreeSet<>();
        for (Method m : it.getDeclaredMethods()) {
            if (!Modifier.isPrivate(m.getModifiers())) {
                Due.holds(m.getName() + " is public, not static", m.getModifiers() == Modifier.PUBLIC);
                face.add(m.getReturnType() + " " + m.getName() + Arrays.stream(m.getParameterTypes())
                        .map(Class::getName).collect(Collectors.joining(",", "(", ")")));
                names.add(m.getName());
            }
        }
        Due.holds("the methods of the document and no others: " + face, face.equals(FACE));
        for (Method m : it.getDeclaredMethods()) {
            Due.holds(m.getName() + " private, with a name of its own",
                    !Modifier.isPrivate(m.getModifiers()) || !names.contains(m.getName()));
        }
        Set<String> open = new TreeSet<>();
        for (Field f : it.getDeclaredFields()) {
            if (!Modifier.isPrivate(f.getModifiers())) {
                open.add(f.getName());
            }
        }
        Due.holds("the constants of the document and no others: " + open,
                open.equals(Set.of("NONE", "BAD", "STATE", "FULL")));
    }

    private static void classesInside() {
        Class<?>[] inside = LabelPlacer.class.getDeclaredClasses();
        Due.holds("at most twelve classes", inside.length < 12);
        for (Class<?> c : inside) {
            Due.holds(c.getName() + " is static", Modifier.isStatic(c.getModifiers()));
            for (Method m : c.getDeclaredMethods()) {
                Due.holds(c.getName() + "." + m.getName() + " has at most seven parameters", m.getParameterCount() <= 7);
            }
            fields(c);
        }
        fields(LabelPlacer.class);
    }

    private static void fields(Class<?> c) {
        int own = 0;
        for (Field f : c.getDeclaredFields()) {
            Due.holds(c.getName() + "." + f.getName() + " is final if static",
                    !Modifier.isStatic(f.getModifiers()) || Modifier.isFinal(f.getModifiers()));
            if (!Modifier.isStatic(f.getModifiers())) {
                own++;
            }
        }
        Due.holds(c.getName() + " has at most twenty fields beside its constants", own <= 20);
    }

    private static void source(String source) {
        String code = source.replaceAll("(?s)/\\*.*?\\*/", "").replaceAll("//[^\n]*", "");
        for (String word : RULED_OUT) {
            Due.holds("no " + word, !code.matches("(?s).*\\b" + word + "\\b.*"));
        }
        for (String sign : new String[] {"->", "::", "@"}) {
            Due.holds("no " + sign, !code.contains(sign));
        }
        Due.holds("no import but Arrays", code.replace("import java.util.Arrays;", "").indexOf("import ") < 0);
        Due.holds("no package", !code.contains("package "));
        methods(code.split("\n"));
    }

    /** Methods are short, and no method makes an object: only constructors do, so that a run stays in its room. */
    private static void methods(String[] lines) {
        int found = 0;
        for (int i = 0; i < lines.length; i++) {
            Matcher m = METHOD.matcher(lines[i]);
            if (m.matches()) {
                int end = i;
                while (end < lines.length && !lines[end].equals(m.group(1) + "}")) {
                    Due.holds(m.group(3) + " makes no object: " + lines[end].trim(),
                            m.group(2) == null || !lines[end].matches(".*\\b(new|clone|copyOf\\w*)\\b.*"));
                    end++;
                }
                Due.holds(m.group(3) + " has at most sixty lines", end - i < 60);
                found++;
            }
        }
        Due.holds("methods were found: " + found, found >= 22);
    }
}
