import java.io.IOException;
import java.lang.reflect.Constructor;
import java.lang.reflect.Field;
import java.lang.reflect.Method;
import java.lang.reflect.Modifier;
import java.nio.file.Files;
import java.nio.file.Path;
import java.util.ArrayList;
import java.util.Arrays;
import java.util.HashSet;
import java.util.List;
import java.util.Set;
import java.util.TreeSet;
import java.util.regex.Matcher;
import java.util.regex.Pattern;

/** The public face of the document, and the rules of LANGUAGE.md that can be seen from outside. */
public final class FaceTest {
    private static final Check CHECK = new Check("FaceTest");
    private static final String SOURCE = "src/main/java/BackupPower.java";

    private static final String[] CONSTANTS = {
        "NONE=-1", "OFF=0", "SERVED=1", "SHED=2", "STOPPED=0", "STARTING=1", "RUNNING=2",
    };
    private static final String[] METHODS = {
        "int addLoad(int,int)", "int addBattery(int,int,int)", "int addGenerator(int,int,int)",
        "int switchLoad(int,boolean)", "int setPower(int,int)", "int refuel(int,int)",
        "int setFailures(int,int)", "int setTests(int,int,int)", "int setTimes(int,int)",
        "boolean setMains(boolean)", "int pass(int)", "int time()", "int outage()",
        "int stateOf(int)", "int demand()", "int shedOrder(int)", "int returnOrder(int)",
        "int chargeOf(int)", "int capacityOf(int)", "int generatorState(int)", "int fuelOf(int)",
        "int batteryMinutes()", "int energyOf(int)", "int darkMinutes(int)", "int fromMains()",
        "int fromGenerators()", "int fromBatteries()", "int intoBatteries()",
        "int failedStarts(int)", "int tests(int)",
    };
    // Each of these would leave the part of Java that LANGUAGE.md allows.
    private static final String[] FORBIDDEN = {
        "\\bimport (?!java\\.util\\.(ArrayList|List|Iterator|Arrays|NoSuchElementException);)",
        "\\bpackage\\b", "->", "::", "\\bfinally\\b", "\\bsynchronized\\b", "\\bassert\\b",
        "\\bSystem\\.(?!arraycopy\\b)", "\\b(Integer|Long)\\.M(AX|IN)_VALUE\\b", "Exact\\b",
        "\\bprotected\\b", "\\bnative\\b", "\\bRandom\\b", "\\bThread\\b", "\\bcatch *\\( *Throwable\\b",
        "\\b(NullPointer|ArrayIndexOutOfBounds|ClassCast|NegativeArraySize|ArrayStore)Exception\\b",
    };

    public static void main(String[] args) throws IOException {
        theFace();
        everyClass();
        theText();
        CHECK.end();
    }

    private static void same(String what, Set<String> got, String[] want) {
        Set<String> due = new TreeSet<>(Arrays.asList(want));
        if (!got.equals(due)) {
            CHECK.report(what + " are " + got + ", due are " + due);
        }
    }

    private static void theFace() {
        Class<?> face = BackupPower.class;
        CHECK.due("public and final", face.getModifiers(), Modifier.PUBLIC | Modifier.FINAL);
        Set<String> constants = new TreeSet<>();
        for (Field field : face.getDeclaredFields()) {
            if (!Modifier.isPrivate(field.getModifiers())) {
                constants.add(nameAndValue(field));
            }
        }
        same("constants", constants, CONSTANTS);
        Set<String> methods = new TreeSet<>();
        Set<String> publicNames = new HashSet<>();
        for (Method method : face.getDeclaredMethods()) {
            if (!Modifier.isPrivate(method.getModifiers())) {
                methods.add(nameAndTypes(method));
                publicNames.add(method.getName());
            }
        }
        same("methods", methods, METHODS);
        for (Method method : face.getDeclaredMethods()) {
            boolean isPrivate = Modifier.isPrivate(method.getModifiers());
            CHECK.due(method + " bears a public name", isPrivate && publicNames.contains(method.getName()), false);
        }
        Constructor<?>[] constructors = face.getDeclaredConstructors();
        CHECK.due("constructors", constructors.length, 1);
        CHECK.due("a public one", constructors[0].getModifiers(), Modifier.PUBLIC);
        CHECK.due("its parameters", constructors[0].getParameterCount(), 0);
    }

    private static String nameAndValue(Field field) {
        int wanted = Modifier.PUBLIC | Modifier.STATIC | Modifier.FINAL;
        try {
            return field.getModifiers() == wanted && field.getType() == int.class
                    ? field.getName() + "=" + field.getInt(null) : field.toString();
        } catch (IllegalAccessException e) {
            return field.toString();
        }
    }

    private static String nameAndTypes(Method method) {
        if (method.getModifiers() != Modifier.PUBLIC) {
            return method.toString();
        }
        List<String> types = new ArrayList<>();
        for (Class<?> type : method.getParameterTypes()) {
            types.add(type.getName());
        }
        return method.getReturnType().getName() + " " + method.getName() + "(" + String.join(",", types) + ")";
    }

    private static void everyClass() {
        List<Class<?>> classes = new ArrayList<>(Arrays.asList(BackupPower.class.getDeclaredClasses()));
        for (Class<?> inner : classes) {
            CHECK.due(inner + " is static", Modifier.isStatic(inner.getModifiers()), true);
            CHECK.due(inner + " is public", Modifier.isPublic(inner.getModifiers()), false);
            CHECK.due(inner + " is protected", Modifier.isProtected(inner.getModifiers()), false);
        }
        classes.add(BackupPower.class);
        CHECK.due("some twelve classes at most", classes.size() <= 12, true);
        for (Class<?> each : classes) {
            int fields = 0;
            for (Field field : each.getDeclaredFields()) {
                boolean isStatic = Modifier.isStatic(field.getModifiers());
                CHECK.due(field + " is static and not final", isStatic && !Modifier.isFinal(field.getModifiers()), false);
                fields += isStatic ? 0 : 1;
            }
            CHECK.due(each + " has some twenty fields at most", fields <= 20, true);
            for (Method method : each.getDeclaredMethods()) {
                CHECK.due(method + " has at most seven parameters", method.getParameterCount() <= 7, true);
            }
        }
    }

    private static void theText() throws IOException {
        String text = Files.readString(Path.of(SOURCE));
        for (int i = 0; i < text.length(); i++) {
            if (text.charAt(i) > 126) {
                CHECK.report("a sign past 126 at " + i);
            }
        }
        String code = text.replaceAll("(?s)/\\*.*?\\*/", "").replaceAll("//[^\n]*", "");
        for (String forbidden : FORBIDDEN) {
            Matcher matcher = Pattern.compile(forbidden).matcher(code);
            if (matcher.find()) {
                CHECK.report("the source has " + matcher.group());
            }
        }
    }
}
