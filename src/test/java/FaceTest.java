import java.io.IOException;
import java.lang.reflect.Constructor;
import java.lang.reflect.Field;
import java.lang.reflect.Method;
import java.lang.reflect.Modifier;
import java.nio.file.Files;
import java.nio.file.Path;
import java.util.ArrayList;
import java.util.Arrays;
import java.util.List;
import java.util.Set;
import java.util.TreeSet;
import java.util.regex.Matcher;
import java.util.regex.Pattern;
import java.util.stream.Collectors;

/** The public face of the document, and what of LANGUAGE.md can be read off the class or its text. */
public final class FaceTest {
    private static final String[] FACE = {
        "unit(int)", "as(int,int)", "found(int,int,long)", "move(int,int,int,long)", "swallow(int,int,int)",
        "back(int,int)", "join(int,int,int)", "act(int,int)", "untell()", "who(int,int)", "there(int,int)",
        "cells(int,int)", "shape(int,int,int)", "under(int,int)", "led(int,int,int)", "borders(int)",
        "changes(int,int)", "map(int,int)", "claim(int,int,int)", "read(int,int)", "best(int,int,int)",
        "quarrel(int,int)", "count(int,int,int)", "carried(int,int,int,boolean)", "people(int)",
        "sheet(int,int,int)", "put(int,int,int)", "copy(int,int,int,int,int)", "lay(int,int)", "told(int)"};
    private static final String[] FORBIDDEN = {
        "\\bthrow\\b", "\\bthrows\\b", "\\btry\\b", "\\bcatch\\b", "\\bsynchronized\\b", "\\bassert\\b", "->", "::",
        "\\bpackage\\b", "\\w+Exact\\b", "\\bThread\\b", "\\bRandom\\b", "\\bcurrentTimeMillis\\b", "\\bnanoTime\\b",
        "\\bprotected\\b", "\\bhashCode\\b", "\\btoString\\b", "\\bstatic\\s*\\{"};

    /** What the interface says ahead of some calls, and the first call behind it. */
    private static final String[][] HEADINGS = {
        {"units, acts", "unit"}, {"at a year", "who"}, {"maps", "map"}, {"counts", "count"}, {"sheets", "sheet"}};

    private static final Due DUE = new Due();

    public static void main(String[] args) throws IOException {
        publicFace();
        nothingElseIsSeen();
        noPrivateMethodBearsAPublicName();
        staticFieldsAreFinal();
        String source = Files.readString(Path.of(System.getProperty("shirelines.source")));
        text(source);
        callsInOrderUnderHeadings(source);
        DUE.end();
    }

    private static String shown(Method method) {
        return method.getName() + Arrays.stream(method.getParameterTypes()).map(Class::getSimpleName)
            .collect(Collectors.joining(",", "(", ")"));
    }

    private static void publicFace() {
        Set<String> seen = new TreeSet<>();
        for (Method method : ShireLines.class.getDeclaredMethods()) {
            if (Modifier.isPublic(method.getModifiers())) {
                seen.add(shown(method));
                DUE.isTrue(shown(method) + " answers a long", method.getReturnType() == long.class);
                DUE.isTrue(shown(method) + " is an object's", !Modifier.isStatic(method.getModifiers()));
            }
        }
        DUE.isTrue("the thirty methods, seen " + seen, seen.equals(new TreeSet<>(Arrays.asList(FACE))));
        DUE.isTrue("public and final", (ShireLines.class.getModifiers() & (Modifier.PUBLIC | Modifier.FINAL))
            == (Modifier.PUBLIC | Modifier.FINAL));
        Constructor<?>[] constructors = ShireLines.class.getDeclaredConstructors();
        DUE.isTrue("one public constructor without parameters", constructors.length == 1
            && constructors[0].getParameterCount() == 0 && Modifier.isPublic(constructors[0].getModifiers()));
    }

    private static void nothingElseIsSeen() {
        for (Method method : ShireLines.class.getDeclaredMethods()) {
            int seen = method.getModifiers();
            DUE.isTrue(shown(method) + " is public or private", Modifier.isPublic(seen) || Modifier.isPrivate(seen));
        }
        for (Field field : ShireLines.class.getDeclaredFields()) {
            DUE.isTrue(field.getName() + " is private", Modifier.isPrivate(field.getModifiers()));
        }
        for (Class<?> inside : ShireLines.class.getDeclaredClasses()) {
            DUE.isTrue(inside.getName() + " is static", Modifier.isStatic(inside.getModifiers()));
            DUE.isTrue(inside.getName() + " is not public", !Modifier.isPublic(inside.getModifiers()));
            DUE.isTrue(inside.getName() + " has few fields", inside.getDeclaredFields().length <= 20);
        }
        DUE.isTrue("at most twelve classes", ShireLines.class.getDeclaredClasses().length < 12);
    }

    private static void noPrivateMethodBearsAPublicName() {
        Set<String> names = new TreeSet<>();
        for (String method : FACE) {
            names.add(method.substring(0, method.indexOf('(')));
        }
        for (Class<?> each : withInside()) {
            for (Method method : each.getDeclaredMethods()) {
                boolean isFace = each == ShireLines.class && Modifier.isPublic(method.getModifiers());
                DUE.isTrue(shown(method) + " bears a name of its own", isFace || !names.contains(method.getName()));
                DUE.isTrue(shown(method) + " has at most seven parameters", method.getParameterCount() <= 7);
            }
        }
    }

    private static void staticFieldsAreFinal() {
        for (Class<?> each : withInside()) {
            for (Field field : each.getDeclaredFields()) {
                int how = field.getModifiers();
                DUE.isTrue(field.getName() + " is final if static", !Modifier.isStatic(how) || Modifier.isFinal(how));
            }
        }
    }

    private static Class<?>[] withInside() {
        Class<?>[] inside = ShireLines.class.getDeclaredClasses();
        Class<?>[] all = Arrays.copyOf(inside, inside.length + 1);
        all[inside.length] = ShireLines.class;
        return all;
    }

    /** The calls stand in the document's order, and ahead of some of them what the interface says there. */
    private static void callsInOrderUnderHeadings(String source) {
        List<String> want = new ArrayList<>();
        for (String method : FACE) {
            String name = method.substring(0, method.indexOf('('));
            for (String[] heading : HEADINGS) {
                if (heading[1].equals(name)) {
                    want.add("---- " + heading[0]);
                }
            }
            want.add(name);
        }
        List<String> seen = new ArrayList<>();
        Matcher found = Pattern.compile("// (---- .+)|public long (\\w+)\\(").matcher(source);
        while (found.find() && seen.size() < want.size()) {
            seen.add(found.group(1) != null ? found.group(1) : found.group(2));
        }
        DUE.isTrue("the calls in order under their headings, seen " + seen, seen.equals(want));
    }

    private static void text(String source) {
        String code = source.replaceAll("(?s)/\\*.*?\\*/", "").replaceAll("//[^\n]*", "");
        for (String forbidden : FORBIDDEN) {
            Matcher matcher = Pattern.compile(forbidden).matcher(code);
            DUE.isTrue("the text has no " + forbidden, !matcher.find());
        }
        Matcher imports = Pattern.compile("\\bimport\\s+([^;]+);").matcher(code);
        while (imports.find()) {
            DUE.isTrue("import " + imports.group(1), imports.group(1).equals("java.util.Arrays"));
        }
        Matcher whiles = Pattern.compile("\\bwhile\\b").matcher(code);
        DUE.isTrue("every loop counts to a bound", !whiles.find());
    }
}
