import java.io.IOException;
import java.lang.reflect.Constructor;
import java.lang.reflect.Field;
import java.lang.reflect.Method;
import java.lang.reflect.Modifier;
import java.nio.file.Files;
import java.nio.file.Path;
import java.util.ArrayList;
import java.util.Arrays;
import java.util.HashSet;
import java.util.List;
import java.util.Set;
import java.util.TreeSet;
import java.util.regex.Matcher;
import java.util.regex.Pattern;

/** The public face of the document, and the rules of LANGUAGE.md that can be seen from outside. */
public final class FaceTest {
    private static final Check CHECK = new Check("FaceTest");
    private static final String SOURCE = "src/main/java/BackupPower.java";

    private static final String[] CONSTANTS = {
        "NONE=-1", "OFF=0", "SERVED=1", "SHED=2", "STOPPED=0", "STARTING=1", "RUNNING=2",
    };
    // Each with its throws clause: index, argument or state for the exception that is named so.
    private static final String[] METHODS = {
        "int addLoad(int,int) argument state", "int addBattery(int,int,int) argument state",
        "int addGenerator(int,int,int) argument state", "int switchLoad(int,boolean) index",
        "int setPower(int,int) index argument", "int refuel(int,int) index argument",
        "int setFailures(int,int) index argument", "int setTests(int,int,int) index argument",
        "int setTimes(int,int) argument", "boolean setMains(boolean)", "int pass(int) argument",
        "int time()", "int outage()", "int stateOf(int) index", "int demand()", "int shedOrder(int) index",
        "int returnOrder(int) index", "int chargeOf(int) index", "int capacityOf(int) index",
        "int generatorState(int) index", "int fuelOf(int) index", "int batteryMinutes()",
        "int energyOf(int) index", "int darkMinutes(int) index", "int fromMains()", "int fromGenerators()",
        "int fromBatteries()", "int intoBatteries()", "int failedStarts(int) index", "int tests(int) index",
    };
    // Each of these would leave the part of Java that LANGUAGE.md allows.
    private static final String[] FORBIDDEN = {
        "\\bimport (?!java\\.util\\.(ArrayList|List|Iterator|Arrays|NoSuchElementException);)",
        "\\bpackage\\b", "->", "::", "\\bfinally\\b", "\\bsynchronized\\b", "\\bassert\\b",
        "\\bSystem\\.(?!arraycopy\\b)", "\\b(Integer|Long)\\.M(AX|IN)_VALUE\\b", "Exact\\b",
        "\\bprotected\\b", "\\bnative\\b", "\\bRandom\\b", "\\bThread\\b", "\\bcatch *\\( *Throwable\\b",
        "\\b(NullPointer|ArrayIndexOutOfBounds|ClassCast|NegativeArraySize|ArrayStore)Exception\\b",
    };

    public static void main(String[] args) throws IOException {
        theFace();
        everyClass();
        theText();
        CHECK.end();
    }

    private static void same(String what, Set<String> got, String[] want) {
        Set<String> due = new TreeSet<>(Arrays.asList(want));
        if (!got.equals(due)) {
            CHECK.report(what + " are " + got + ", due are " + due);
        }
    }

    private static void theFace() {
        Class<?> face = BackupPower.class;
        CHECK.due("public and final", face.getModifiers(), Modifier.PUBLIC | Modifier.FINAL);
        Set<String> constants = new TreeSet<>();
        for (Field field : face.getDeclaredFields()) {
            if (!Modifier.isPrivate(field.getModifiers())) {
                constants.add(nameAndValue(field));
            }
        }
        same("constants", constants, CONSTANTS);
        Set<String> methods = new TreeSet<>();
        Set<String> publicNames = new HashSet<>();
        for (Method method : face.getDeclaredMethods()) {
            if (!Modifier.isPrivate(method.getModifiers())) {
                methods.add(signatureOf(method));
                publicNames.add(method.getName());
            }
        }
        same("methods", methods, METHODS);
        for (Method method : face.getDeclaredMethods()) {
            boolean isPrivate = Modifier.isPrivate(method.getModifiers());
            CHECK.due(method + " bears a public name", isPrivate && publicNames.contains(method.getName()), false);
        }
        Constructor<?>[] constructors = face.getDeclaredConstructors();
        CHECK.due("constructors", constructors.length, 1);
        CHECK.due("a public one", constructors[0].getModifiers(), Modifier.PUBLIC);
        CHECK.due("its parameters", constructors[0].getParameterCount(), 0);
        CHECK.due("its throws clause", constructors[0].getExceptionTypes().length, 0);
    }

    private static String nameAndValue(Field field) {
        int wanted = Modifier.PUBLIC | Modifier.STATIC | Modifier.FINAL;
        try {
            return field.getModifiers() == wanted && field.getType() == int.class
                    ? field.getName() + "=" + field.getInt(null) : field.toString();
        } catch (IllegalAccessException e) {
            return field.toString();
        }
    }

    private static String signatureOf(Method method) {
        if (method.getModifiers() != Modifier.PUBLIC) {
            return method.toString();
        }
        List<String> types = new ArrayList<>();
        for (Class<?> type : method.getParameterTypes()) {
            types.add(type.getName());
        }
        StringBuilder text = new StringBuilder(method.getReturnType().getName());
        text.append(' ').append(method.getName()).append('(').append(String.join(",", types)).append(')');
        for (Class<?> thrown : method.getExceptionTypes()) {
            text.append(' ').append(shortNameOf(thrown));
        }
        return text.toString();
    }

    private static String shortNameOf(Class<?> thrown) {
        if (thrown == IndexOutOfBoundsException.class) {
            return "index";
        }
        if (thrown == IllegalArgumentException.class) {
            return "argument";
        }
        return thrown == IllegalStateException.class ? "state" : thrown.getName();
    }

    private static void everyClass() {
        List<Class<?>> classes = new ArrayList<>(Arrays.asList(BackupPower.class.getDeclaredClasses()));
        for (Class<?> inner : classes) {
            CHECK.due(inner + " is static", Modifier.isStatic(inner.getModifiers()), true);
            CHECK.due(inner + " is public", Modifier.isPublic(inner.getModifiers()), false);
            CHECK.due(inner + " is protected", Modifier.isProtected(inner.getModifiers()), false);
        }
        classes.add(BackupPower.class);
        CHECK.due("some twelve classes at most", classes.size() <= 12, true);
        for (Class<?> each : classes) {
            int fields = 0;
            for (Field field : each.getDeclaredFields()) {
                boolean isStatic = Modifier.isStatic(field.getModifiers());
                boolean isFinal = Modifier.isFinal(field.getModifiers());
                CHECK.due(field + " is static and not final", isStatic && !isFinal, false);
                fields += isStatic ? 0 : 1;
            }
            CHECK.due(each + " has some twenty fields at most", fields <= 20, true);
            for (Method method : each.getDeclaredMethods()) {
                CHECK.due(method + " has at most seven parameters", method.getParameterCount() <= 7, true);
            }
        }
    }

    private static void theText() throws IOException {
        String text = Files.readString(Path.of(SOURCE));
        for (int i = 0; i < text.length(); i++) {
            if (text.charAt(i) > 126) {
                CHECK.report("a sign past 126 at " + i);
            }
        }
        String code = text.replaceAll("(?s)/\\*.*?\\*/", "").replaceAll("//[^\n]*", "");
        for (String forbidden : FORBIDDEN) {
            Matcher matcher = Pattern.compile(forbidden).matcher(code);
            if (matcher.find()) {
                CHECK.report("the source has " + matcher.group());
            }
        }
    }
}
