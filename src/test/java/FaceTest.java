import java.io.IOException;
import java.lang.reflect.Constructor;
import java.lang.reflect.Field;
import java.lang.reflect.Method;
import java.lang.reflect.Modifier;
import java.nio.file.Files;
import java.nio.file.Path;
import java.util.ArrayList;
import java.util.Arrays;
import java.util.List;
import java.util.Random;
import java.util.Set;
import java.util.TreeSet;
import java.util.regex.Pattern;

/** The public face, rules of the language that a look at the source can tell, and calls with any arguments. */
public final class FaceTest {
    private static final Due DUE = new Due();
    private static final String[] FACE = {
        "int free(int)", "int sign(int,int,int)", "int odds(int,int)",
        "int form(int,int,int,int,int,int,int)", "int at(int,int)", "long whole(int,int)", "int hold(int,int)",
        "int goes(int,int)", "int nought(int)", "int bars(int)", "int bar(int,int)", "int takes(int,int)",
        "int alike(int,int)", "long worth(int,int,int,int)", "int measure(int,int,int,int)",
        "long least(int,int,int)", "int many(int)", "long line(int,int,int,int,int,int,int,int)",
        "int count(int,int)", "long trace()"};

    public static void main(String[] args) throws ReflectiveOperationException, IOException {
        constants();
        members();
        wordsOfTheSource();
        anyArguments();
        sameCallsSameAnswers();
        DUE.end();
    }

    private static void constants() {
        DUE.is("BAD", RingForms.BAD, -3);
        DUE.is("STATE", RingForms.STATE, -4);
        DUE.is("FULL", RingForms.FULL, -5);
        DUE.is("NONE", RingForms.NONE, -9);
        DUE.is("NO", RingForms.NO, -1000000000000000L);
    }

    private static void members() {
        Set<String> due = new TreeSet<>(Arrays.asList(FACE));
        Set<String> found = new TreeSet<>();
        Set<String> privates = new TreeSet<>();
        for (Method method : RingForms.class.getDeclaredMethods()) {
            if (Modifier.isPrivate(method.getModifiers())) {
                privates.add(method.getName());
            } else {
                found.add(told(method));
                DUE.holds(method + " is public and not static", method.getModifiers() == Modifier.PUBLIC);
            }
        }
        DUE.holds("the face is " + found, found.equals(due));
        for (String method : FACE) {
            String name = method.substring(method.indexOf(' ') + 1, method.indexOf('('));
            DUE.holds("no private method is called " + name, !privates.contains(name));
        }
        Set<String> names = new TreeSet<>(Arrays.asList("BAD", "STATE", "FULL", "NONE", "NO"));
        for (Field field : RingForms.class.getDeclaredFields()) {
            if (!Modifier.isPrivate(field.getModifiers())) {
                DUE.holds(field + " is of the face", names.remove(field.getName()));
            }
        }
        Constructor<?>[] constructors = RingForms.class.getDeclaredConstructors();
        DUE.is("constructors", constructors.length, 1);
        DUE.is("the constructor's parameters", constructors[0].getParameterCount(), 0);
        DUE.holds("the class is public and final",
                RingForms.class.getModifiers() == (Modifier.PUBLIC | Modifier.FINAL));
        for (Class<?> inside : RingForms.class.getDeclaredClasses()) {
            DUE.holds(inside + " is static", Modifier.isStatic(inside.getModifiers()));
        }
    }

    private static String told(Method method) {
        List<String> types = new ArrayList<>();
        for (Class<?> type : method.getParameterTypes()) {
            types.add(type.getName());
        }
        return method.getReturnType().getName() + " " + method.getName() + "(" + String.join(",", types) + ")";
    }

    private static void wordsOfTheSource() throws IOException {
        String source = Files.readString(Path.of("src/main/java/RingForms.java"))
                .replaceAll("(?s)/\\*.*?\\*/", "").replaceAll("//[^\n]*", "");
        String[] ruledOut = {"import", "package", "throw", "throws", "try", "catch", "synchronized", "assert",
            "protected", "double", "float", "->", "::", "while", "\\w+Exact", "System", "Thread", "Random", "@\\w+"};
        for (String word : ruledOut) {
            String pattern = word.matches("\\w.*") ? "\\b" + word + "\\b" : word;
            DUE.holds("the source does without " + word, !Pattern.compile(pattern).matcher(source).find());
        }
    }

    /** A call that threw would end the test. */
    private static void anyArguments() throws ReflectiveOperationException {
        Random random = new Random(7);
        int[] edges = {0, 1, -1, 2, 3, 4, 5, 6, 7, -2, 9, 30, -30, 31, 397, 400, -400, 401, 1000, -1000, 1001,
            46341, 65536, 1000000, -1000000, 1000001, Integer.MAX_VALUE, Integer.MIN_VALUE, Integer.MIN_VALUE + 1};
        List<Method> face = face();
        for (int round = 0; round < 400; round++) {
            RingForms forms = new RingForms();
            for (int call = 0; call < 510; call++) {
                Method method = face.get(random.nextInt(face.size()));
                Object[] values = new Object[method.getParameterCount()];
                for (int i = 0; i < values.length; i++) {
                    values[i] = random.nextInt(4) > 0 ? edges[random.nextInt(edges.length)] : random.nextInt(5);
                }
                method.invoke(forms, values);
            }
            DUE.holds("the shelves have forms", forms.count(0, 0) >= 1 && forms.count(3, 0) <= 5);
        }
    }

    private static void sameCallsSameAnswers() throws ReflectiveOperationException {
        List<Method> face = face();
        RingForms one = new RingForms();
        RingForms other = new RingForms();
        RingForms noise = new RingForms();
        Random random = new Random(21);
        for (int call = 0; call < 512; call++) {
            Method method = face.get(random.nextInt(face.size()));
            Object[] values = new Object[method.getParameterCount()];
            for (int i = 0; i < values.length; i++) {
                values[i] = random.nextInt(4);
            }
            long first = ((Number) method.invoke(one, values)).longValue();
            if (call % 2 == 0) {
                noise.form(call % 4, 3, 1 + call % 7, -1, -2, 0, 0);
            } else {
                noise.takes(call % 4, 5);
            }
            DUE.is(method.getName() + Arrays.toString(values) + " again",
                    ((Number) method.invoke(other, values)).longValue(), first);
        }
    }

    private static List<Method> face() {
        List<Method> face = new ArrayList<>();
        for (Method method : RingForms.class.getDeclaredMethods()) {
            if (Modifier.isPublic(method.getModifiers())) {
                face.add(method);
            }
        }
        face.sort((a, b) -> a.getName().compareTo(b.getName()));
        return face;
    }
}
