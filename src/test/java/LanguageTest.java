import java.io.IOException;
import java.lang.reflect.Constructor;
import java.lang.reflect.Field;
import java.lang.reflect.Method;
import java.lang.reflect.Modifier;
import java.nio.file.Files;
import java.nio.file.Path;
import java.util.Arrays;
import java.util.HashSet;
import java.util.Set;
import java.util.TreeSet;
import java.util.regex.Matcher;
import java.util.regex.Pattern;

/** The face of the class, and what of LANGUAGE.md can be seen in its text. */
public final class LanguageTest {
    private static final String INDEX = " IndexOutOfBoundsException";
    private static final String ARGUMENT = " IllegalArgumentException";
    private static final String STATE = " IllegalStateException";

    private static final String[] FACE = {
        "int earn(int)" + ARGUMENT + STATE, "int load(int,int)" + INDEX + ARGUMENT, "int set(int,int)" + INDEX + ARGUMENT,
        "int step(int,int)" + INDEX + ARGUMENT + STATE, "int go(int,int)" + INDEX + ARGUMENT + STATE,
        "int home(int)" + INDEX, "int grease(int)" + INDEX + STATE, "int mend(int,int)" + INDEX + STATE,
        "int append(int)" + ARGUMENT + STATE, "int clearBuffer()", "int firstError()", "int run()" + ARGUMENT,
        "int undo()" + STATE, "int axis(int,int)" + INDEX + ARGUMENT, "int wear(int,int)" + INDEX,
        "int count(int)" + ARGUMENT, "int setting(int)" + INDEX, "int toll(int,boolean)" + INDEX,
        "int slips(int,boolean)" + INDEX, "int cost(int,int,boolean)" + INDEX + ARGUMENT,
        "int ifHomed(int,int)" + INDEX + ARGUMENT, "int reach(int,boolean)" + INDEX, "int couldBe(int)" + INDEX,
        "int worst(int,int)" + INDEX + ARGUMENT, "double meanToll()", "long digest()"};

    private static final String[] LEFT_OUT = {"import", "package", "->", "::", "synchronized", "assert", "finally", "record",
        "volatile", "transient", "native", "protected", "throws Exception", "Object", "Throwable", "catch", "Double", "Float",
        "Exact", "System\\.(?!arraycopy)", "Math\\.(?!min|max|abs|floorMod|floorDiv)", "Thread", "getClass", "hashCode",
        "toString", "equals", "String", "NaN", "yield", "var", "\"\\s*\\+", "\\+\\s*\"", "static\\s*\\{"};

    public static void main(String[] args) throws IOException {
        theFace();
        theText(Files.readString(Path.of("src/main/java/ArmTolls.java")));
        Check.end("LanguageTest");
    }

    private static void theFace() {
        Class<?> c = ArmTolls.class;
        Check.due("modifiers of the class", c.getModifiers(), Modifier.PUBLIC | Modifier.FINAL);
        Set<String> open = new TreeSet<>();
        Set<String> openNames = new HashSet<>();
        for (Method m : c.getDeclaredMethods()) {
            if (!Modifier.isPrivate(m.getModifiers()) && !m.isSynthetic()) {
                Check.due("modifiers of " + m.getName(), m.getModifiers(), Modifier.PUBLIC);
                open.add(told(m));
                openNames.add(m.getName());
            }
        }
        Check.dueText("the methods of the face", open.toString(), new TreeSet<>(Arrays.asList(FACE)).toString());
        noPrivateMethodWithAnOpenName(c, openNames);
        for (Constructor<?> made : c.getDeclaredConstructors()) {
            Check.dueText("constructor", made.toString(), "public ArmTolls()");
        }
        for (Field f : c.getDeclaredFields()) {
            boolean isNone = f.getName().equals("NONE");
            Check.due("whether the field " + f.getName() + " is private", Modifier.isPrivate(f.getModifiers()) ? 1 : 0, isNone ? 0 : 1);
            if (Modifier.isStatic(f.getModifiers())) {
                Check.due("whether the field " + f.getName() + " is final", Modifier.isFinal(f.getModifiers()) ? 1 : 0, 1);
            }
        }
        Check.due("whether there are at most 12 classes", c.getDeclaredClasses().length <= 11 ? 1 : 0, 1);
    }

    private static void noPrivateMethodWithAnOpenName(Class<?> c, Set<String> openNames) {
        for (Method m : c.getDeclaredMethods()) {
            if (Modifier.isPrivate(m.getModifiers()) && openNames.contains(m.getName())) {
                Check.dueText("a private method's name", m.getName(), "another one");
            }
        }
        for (Class<?> inside : c.getDeclaredClasses()) {
            Check.due("whether " + inside.getName() + " is static", Modifier.isStatic(inside.getModifiers()) ? 1 : 0, 1);
            for (Method m : inside.getDeclaredMethods()) {
                if (openNames.contains(m.getName())) {
                    Check.dueText("the name of a method of " + inside.getName(), m.getName(), "another one");
                }
            }
        }
    }

    private static String told(Method m) {
        StringBuilder text = new StringBuilder(m.getReturnType() + " " + m.getName() + "(");
        for (int i = 0; i < m.getParameterCount(); i++) {
            text.append(i > 0 ? "," : "").append(m.getParameterTypes()[i]);
        }
        text.append(")");
        for (Class<?> thrown : m.getExceptionTypes()) {
            text.append(" ").append(thrown.getSimpleName());
        }
        return text.toString();
    }

    private static void theText(String text) {
        String code = text.replaceAll("(?s)/\\*.*?\\*/", "").replaceAll("//[^\n]*", "");
        String bare = code.replaceAll("\"[^\"\n]*\"", "\"\"");
        for (String word : LEFT_OUT) {
            boolean isWord = Character.isLetter(word.charAt(0)) && Character.isLetter(word.charAt(word.length() - 1));
            Matcher found = Pattern.compile(isWord ? "\\b" + word + "\\b" : word).matcher(bare);
            Check.due("where " + word + " stands in the program", found.find() ? found.start() : -1, -1);
        }
        Matcher thrown = Pattern.compile("throw (.*)").matcher(code);
        while (thrown.find()) {
            boolean right = thrown.group(1).matches("new (Ill|Ind)[A-Za-z]+Exception\\(\"[ -~]+\"\\);");
            Check.dueText(thrown.group(), right ? "right" : "wrong", "right");
        }
        Check.due("signs beside 1 to 127", text.chars().filter(c -> c < 1 || c > 127).count(), 0);
        noLongMethod(text);
    }

    private static void noLongMethod(String text) {
        int start = 0;
        String[] lines = text.split("\n");
        for (int i = 0; i < lines.length; i++) {
            if (lines[i].matches("( {4}| {8})(?!if|for|while|switch)[a-z].*\\{") || lines[i].matches(".*class .*\\{")) {
                start = i;
            }
            if (lines[i].matches("( {4}| {8})\\}") && i - start > 60) {
                Check.due("lines of the method that ends at " + (i + 1), i - start, 60);
            }
            Check.due("whether line " + (i + 1) + " has at most 120 signs", lines[i].length() <= 120 ? 1 : 0, 1);
        }
    }
}
