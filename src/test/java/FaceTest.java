import java.lang.reflect.Constructor;
import java.lang.reflect.Field;
import java.lang.reflect.Method;
import java.lang.reflect.Modifier;
import java.nio.file.Files;
import java.nio.file.Path;
import java.util.ArrayList;
import java.util.List;
import java.util.Set;
import java.util.TreeSet;
import java.util.regex.Matcher;
import java.util.regex.Pattern;

/** The public face, and those rules of LANGUAGE.md that can be seen by reflection or in the text. */
public final class FaceTest {
    private static final String[] METHODS = {
        "int reset(int,int,int,int)", "int conditionCount()", "int caseCount()", "int valueIn(int,int)",
        "int setWeight(int,int,int)", "int setCost(int,int)", "int setDefault(int)", "int append(int,int)",
        "int clearInput()", "int addRule()", "int insertRule(int)", "int removeRule(int)", "int ruleCount()",
        "int ruleSet(int,int)", "int ruleAction(int)", "int ruleCases(int)", "int firstMatch(int)",
        "int matches(int)", "int action(int)", "int gapCount()", "int gap(int)", "long gapWeight()",
        "int conflictCount()", "int conflict(int,int)", "int isShadowed(int)", "int removeShadowed()",
        "int mergeRules()", "int compile()", "long expectedCost()", "int worstCost()", "int node(int,int)",
        "int child(int,int)", "int leafOf(int)", "int sharedNodeCount()", "int sharedNode(int)",
        "long costWithRoot(int)", "int sample(int,int,int)", "int allocate(int,int,int)", "int release(int)",
        "int putElement(int,int,long)", "long element(int,int)", "int copyElements(int,int,int,int,int)",
        "int storeActions(int)", "int compareActions(int)", "int snapshot()", "int restore()"};
    private static final String[] FIELDS = {
        "int BAD_ARGUMENT = -1", "int NO_SUCH_CONDITION = -2", "int NO_SUCH_RULE = -3", "int FULL = -4",
        "int NO_SUCH_CASE = -5", "int NONE = -6", "int NOT_COMPILED = -7", "int EMPTY_SLOT = -11",
        "int WRONG_TYPE = -12", "int INDEX_OUT_OF_RANGE = -13", "int NEGATIVE_SIZE = -14",
        "long NO_VALUE = -9223372036854775808"};

    public static void main(String[] args) throws Exception {
        Class<?> face = DecisionTableCompiler.class;
        Due.due("the class is public and final", face.getModifiers(), Modifier.PUBLIC | Modifier.FINAL);
        methods(face);
        fields(face);
        constructors(face);
        nested(face);
        text(Files.readString(Path.of(System.getProperty("source"))));
        Due.close();
    }

    private static void same(String what, Set<String> got, String[] want) {
        Set<String> due = new TreeSet<>(List.of(want));
        Due.due(what + " " + got + " for " + due, got.equals(due) ? 1 : 0, 1);
    }

    private static void methods(Class<?> face) {
        Set<String> open = new TreeSet<>();
        Set<String> publicNames = new TreeSet<>();
        List<String> hidden = new ArrayList<>();
        for (Method m : face.getDeclaredMethods()) {
            if (Modifier.isPrivate(m.getModifiers())) {
                hidden.add(m.getName());
                continue;
            }
            publicNames.add(m.getName());
            Due.due(m + " is public and nothing else", m.getModifiers(), Modifier.PUBLIC);
            StringBuilder one = new StringBuilder(m.getReturnType() + " " + m.getName() + "(");
            for (Class<?> type : m.getParameterTypes()) {
                one.append(one.charAt(one.length() - 1) == '(' ? "" : ",").append(type);
            }
            open.add(one.append(')').toString());
        }
        same("the methods", open, METHODS);
        for (Class<?> inside : face.getDeclaredClasses()) {
            for (Method m : inside.getDeclaredMethods()) {
                hidden.add(m.getName());
                Due.due(m + ": parameters", m.getParameterCount() <= 7 ? 1 : 0, 1);
            }
        }
        for (String name : hidden) {
            Due.due(name + " bears the name of a public method", publicNames.contains(name) ? 1 : 0, 0);
        }
    }

    private static void fields(Class<?> face) throws Exception {
        Set<String> open = new TreeSet<>();
        for (Field f : face.getDeclaredFields()) {
            boolean constant = Modifier.isStatic(f.getModifiers());
            Due.due(f + ": static fields are final", !constant || Modifier.isFinal(f.getModifiers()) ? 1 : 0, 1);
            if (!Modifier.isPrivate(f.getModifiers())) {
                int due = Modifier.PUBLIC | Modifier.STATIC | Modifier.FINAL;
                Due.due(f + " is a public constant", f.getModifiers(), due);
                open.add(f.getType() + " " + f.getName() + " = " + f.get(null));
            }
        }
        same("the constants", open, FIELDS);
    }

    private static void constructors(Class<?> face) {
        Constructor<?>[] all = face.getDeclaredConstructors();
        Due.due("one constructor", all.length, 1);
        Due.due("it is public", all[0].getModifiers(), Modifier.PUBLIC);
        Due.due("it has no parameters", all[0].getParameterCount(), 0);
    }

    private static void nested(Class<?> face) {
        Due.due("at most twelve classes", face.getDeclaredClasses().length <= 11 ? 1 : 0, 1);
        for (Class<?> inside : face.getDeclaredClasses()) {
            int m = inside.getModifiers();
            Due.due(inside + " is static", Modifier.isStatic(m) ? 1 : 0, 1);
            Due.due(inside + " is not open", Modifier.isPublic(m) || Modifier.isProtected(m) ? 1 : 0, 0);
            Due.due(inside + " holds no class", inside.getDeclaredClasses().length, 0);
            int fields = 0;
            for (Field f : inside.getDeclaredFields()) {
                boolean constant = Modifier.isStatic(f.getModifiers());
                fields += constant ? 0 : 1;
                Due.due(f + ": static fields are final", !constant || Modifier.isFinal(f.getModifiers()) ? 1 : 0, 1);
            }
            Due.due(inside + ": at most twenty fields", fields <= 20 ? 1 : 0, 1);
        }
    }

    private static void text(String source) {
        String code = source.replaceAll("(?s)/\\*.*?\\*/", "").replaceAll("//[^\\n]*", "");
        String[] banned = {"throw", "throws", "try", "catch", "finally", "synchronized", "assert", "package",
            "lambda", "Exception", "Object", "Thread", "Random", "volatile", "transient", "native", "protected"};
        for (String word : banned) {
            Due.due("the word " + word, Pattern.compile("\\b" + word + "\\b").matcher(code).find() ? 1 : 0, 0);
        }
        Due.due("a lambda or a method reference", code.contains("->") || code.contains("::") ? 1 : 0, 0);
        Due.due("an Exact function", code.contains("Exact(") ? 1 : 0, 0);
        Matcher imports = Pattern.compile("import ([^;]*);").matcher(code);
        while (imports.find()) {
            Due.due("import " + imports.group(1), imports.group(1).equals("java.util.Arrays") ? 1 : 0, 1);
        }
        for (String call : new String[] {"Arrays", "System", "Integer", "Long", "Math"}) {
            Matcher used = Pattern.compile("\\b" + call + "\\.(\\w+)").matcher(code);
            while (used.find()) {
                boolean listed = Set.of("fill", "arraycopy", "bitCount", "max", "min", "MIN_VALUE").contains(used.group(1));
                Due.due(call + "." + used.group(1), listed ? 1 : 0, 1);
            }
        }
    }
}
