import java.io.IOException;
import java.lang.reflect.Constructor;
import java.lang.reflect.Field;
import java.lang.reflect.Method;
import java.lang.reflect.Modifier;
import java.nio.file.Files;
import java.nio.file.Path;
import java.util.Arrays;
import java.util.HashSet;
import java.util.Set;
import java.util.TreeSet;
import java.util.regex.Matcher;
import java.util.regex.Pattern;
import java.util.stream.Collectors;

/** The public face of the document, and those rules of LANGUAGE.md that can be seen from outside or in the words. */
public final class FaceTest {
    private static final String[] FACE = {
        "int row(int,int)", "int lay(int,int,int)", "int at(int,int)", "int tear(int)", "int copy(int,int,int,int,int)",
        "int mean(int)", "int text(int,int)", "int put(int,int,int)", "int fault(int)", "int land(int)",
        "int hand(int,int)", "int mark(int,int)", "int teach(int,int,int)", "int meet(int,int,int)", "int off(int)",
        "int may(int,int)", "int meets(int,int)", "int send(int,int,int)", "int give(int,int)", "int hours(int)",
        "int where(int)", "int hands(int,int)", "int back(int)", "int keep(int)", "int on(int)",
        "int soon(int,int,int,int)", "int way(int,int,int,int)", "int tongue(int,int,int)",
        "int parts(int,int,int,int)", "int apart(int,int,int)", "int needs(int,int,int)", "int forget(int,int,int)",
        "int reach(int,int)", "int cutOff()", "int taught(int,int)", "int best()", "int worth(int)", "int fewest()",
        "int reader(int)", "int readers(int)", "int knows(int)", "int days(int,int)", "int asked()", "long upper()",
        "long lower()", "int count(int)", "int finding()", "int findings(int)", "long digest()",
    };
    private static final String[] CONSTANTS = {"BAD=-1", "FULL=-2", "FINDING=-3", "STATE=-4", "SPENT=-6", "NONE=-9"};
    private static final String[] WORDS_RULED_OUT = {
        "throw", "throws", "try", "catch", "finally", "synchronized", "assert", "package",
        "volatile", "transient", "native", "strictfp", "hashCode", "toString",
    };

    private static int wrong = 0;

    private static void due(String what, Object got, Object want) {
        if (!got.equals(want)) {
            wrong++;
            System.out.println(what + ": is " + got + ", due is " + want);
        }
    }

    private static String signature(Method m) {
        String types = Arrays.stream(m.getParameterTypes()).map(Class::getName).collect(Collectors.joining(","));
        return m.getReturnType().getName() + " " + m.getName() + "(" + types + ")";
    }

    private static void face() throws IllegalAccessException {
        Set<String> methods = new TreeSet<>();
        for (Method m : BlindPost.class.getDeclaredMethods()) {
            if (!Modifier.isPrivate(m.getModifiers()) && !m.isSynthetic()) {
                methods.add(signature(m));
                due(m.getName() + " is public, no more", Modifier.toString(m.getModifiers()), "public");
            }
        }
        due("methods", methods, new TreeSet<>(Arrays.asList(FACE)));
        Set<String> constants = new TreeSet<>();
        for (Field f : BlindPost.class.getDeclaredFields()) {
            if (!Modifier.isPrivate(f.getModifiers())) {
                constants.add(f.getName() + "=" + f.get(null));
                due(f.getName() + " is a constant", Modifier.toString(f.getModifiers()), "public static final");
            }
        }
        due("constants", constants, new TreeSet<>(Arrays.asList(CONSTANTS)));
        Constructor<?>[] constructors = BlindPost.class.getDeclaredConstructors();
        due("one constructor", constructors.length, 1);
        due("public, without parameters", constructors[0].toString(), "public BlindPost()");
        due("the class", Modifier.toString(BlindPost.class.getModifiers()), "public final");
    }

    private static void insides() {
        Set<String> publicNames = new HashSet<>();
        for (String signature : FACE) {
            publicNames.add(signature.substring(signature.indexOf(' ') + 1, signature.indexOf('(')));
        }
        Class<?>[] inside = BlindPost.class.getDeclaredClasses();
        due("at most twelve classes", inside.length < 12, true);
        for (Class<?> c : inside) {
            due(c.getName() + " is static", Modifier.isStatic(c.getModifiers()), true);
            due(c.getName() + " is not public", Modifier.isPublic(c.getModifiers()), false);
            for (Method m : c.getDeclaredMethods()) {
                due(c.getName() + "." + m.getName() + " bears a public name", publicNames.contains(m.getName()), false);
                due(m.getName() + ": at most seven parameters", m.getParameterCount() <= 7, true);
            }
        }
        for (Method m : BlindPost.class.getDeclaredMethods()) {
            boolean isPrivate = Modifier.isPrivate(m.getModifiers());
            due(m.getName() + " bears a public name", isPrivate && publicNames.contains(m.getName()), false);
        }
        fields(BlindPost.class);
        for (Class<?> c : inside) {
            fields(c);
        }
    }

    private static void fields(Class<?> c) {
        int own = 0;
        for (Field f : c.getDeclaredFields()) {
            boolean isStatic = Modifier.isStatic(f.getModifiers());
            own += isStatic ? 0 : 1;
            due(c.getName() + "." + f.getName() + ": static is final", !isStatic || Modifier.isFinal(f.getModifiers()), true);
        }
        due(c.getName() + ": at most twenty fields", own <= 20, true);
    }

    private static void words(String source) {
        String code = source.replaceAll("(?s)/\\*.*?\\*/", " ").replaceAll("//[^\n]*", " ").replaceAll("\"[^\"\n]*\"", "\"\"");
        for (String word : WORDS_RULED_OUT) {
            Matcher m = Pattern.compile("\\b" + word + "\\b").matcher(code);
            due("the word " + word + " is used", m.find(), false);
        }
        due("a lambda or a method reference", code.contains("->") || code.contains("::"), false);
        due("one import alone", code.replaceAll("(?s).*?import ([\\w.]+);(?!.*import ).*", "$1"), "java.util.Arrays");
        due("signs 1 to 127 alone", source.chars().allMatch(ch -> ch < 128), true);
        // What a call makes is counted over a whole run: only constructors and fields' first values make anything.
        for (String line : code.split("\n")) {
            boolean makes = line.contains("new ");
            boolean isFirstValue = line.contains("final") || line.matches("\\s+(rows\\[r\\]|texts\\[t\\]|kept\\[k\\]|letters\\[k\\]|places) = new .*");
            due("made outside of a constructor: " + line.trim(), makes && !isFirstValue, false);
        }
        methodSizes(source);
    }

    private static void methodSizes(String source) {
        String[] lines = source.split("\n");
        Pattern start = Pattern.compile("^( {4}| {8})(public |private |static |final )*[\\w\\[\\]]+ \\w+\\(.*\\) \\{$");
        for (int i = 0; i < lines.length; i++) {
            Matcher m = start.matcher(lines[i]);
            if (m.matches()) {
                int end = i;
                while (end < lines.length && !lines[end].equals(m.group(1) + "}")) {
                    end++;
                }
                due(lines[i].trim() + ": at most sixty lines", end - i < 60, true);
            }
        }
    }

    /** Each call with arguments at and beyond the edges, with a LAND and without: none may throw. */
    private static void neverThrows() throws ReflectiveOperationException {
        int[] hard = {0, 1, -1, 2, 3, 6, 7, 31, 32, 40, 41, 99, 100, Integer.MAX_VALUE, Integer.MIN_VALUE};
        java.util.Random random = new java.util.Random(7);
        for (Method m : BlindPost.class.getDeclaredMethods()) {
            if (!Modifier.isPublic(m.getModifiers())) {
                continue;
            }
            for (int go = 0; go < 400; go++) {
                BlindPost x = new BlindPost();
                if (go % 2 == 0) {
                    String land = "h01c2s4l1u03yh0134m010m121m232m363m144m465m056m562";
                    x.text(0, land.length());
                    for (int i = 0; i < land.length(); i++) {
                        x.put(0, i, land.charAt(i));
                    }
                    x.land(0);
                    x.send(0, 6, 1);
                    x.row(0, 3);
                }
                Object[] arguments = new Object[m.getParameterCount()];
                for (int i = 0; i < arguments.length; i++) {
                    arguments[i] = hard[random.nextInt(hard.length)];
                }
                m.invoke(x, arguments);
            }
        }
    }

    public static void main(String[] args) throws IOException, ReflectiveOperationException {
        face();
        insides();
        words(Files.readString(Path.of(System.getProperty("blindpost.source"))));
        neverThrows();
        System.out.println(wrong == 0 ? "the face is as due" : wrong + " things are not as due");
        if (wrong != 0) {
            System.exit(1);
        }
    }
}
