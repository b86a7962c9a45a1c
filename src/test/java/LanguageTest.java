import java.io.IOException;
import java.lang.reflect.Constructor;
import java.lang.reflect.Field;
import java.lang.reflect.Method;
import java.lang.reflect.Modifier;
import java.nio.file.Files;
import java.nio.file.Path;
import java.util.ArrayList;
import java.util.List;
import java.util.Set;
import java.util.TreeSet;
import java.util.regex.Matcher;
import java.util.regex.Pattern;

/** The face of the class, and the rules of LANGUAGE.md that can be told from its members and its text. */
public final class LanguageTest {
    private static final Path SOURCE = Path.of("src/main/java/InterestNet.java");

    private static final String FACE = """
            public static final int NONE
            public static final int BAD_INDEX
            public static final int BAD_VALUE
            public static final int BAD_STATE
            public static final int FULL
            public InterestNet()
            public int addNode(int)
            public int charge(int,int)
            public int link(int,int,int)
            public int cut(int)
            public int addSensor(int,int,int)
            public int measure(int,int)
            public int ask(int,int,int,int,int)
            public int withdraw(int)
            public int setPeriod(int)
            public int count(int)
            public int energy(int)
            public int linkPart(int,int)
            public int sensor(int,int)
            public int interest(int,int)
            public int rounds(int)
            public int wayLength(int,int)
            public int wayNode(int,int,int)
            public int isWhole(int,int)
            public int quickest(int,int)
            public int load(int)
            public int firstDeath()
            public int willDeliver(int)
            public int bestPeriod(int)
            public int undo()
            public int type(int)
            public int clearText()
            public int textFault()
            public int build()
            public long digest()
            """;

    private static int wrong = 0;

    private static void due(boolean holds, String what) {
        if (!holds) {
            wrong++;
            System.out.println("not so: " + what);
        }
    }

    public static void main(String[] args) throws IOException {
        faceIsThatOfTheDocument();
        classesInsideKeepTheRules();
        textKeepsTheRules(withoutComments(Files.readString(SOURCE)));
        System.out.println(wrong == 0 ? "all rules are kept" : wrong + " rules are not kept");
        if (wrong != 0) {
            System.exit(1);
        }
    }

    private static void faceIsThatOfTheDocument() {
        Class<?> face = InterestNet.class;
        due(face.getModifiers() == (Modifier.PUBLIC | Modifier.FINAL), "the class is public and final, no more");
        Set<String> seen = new TreeSet<>();
        for (Field field : face.getDeclaredFields()) {
            if (!Modifier.isPrivate(field.getModifiers())) {
                seen.add(field.toString());
            }
        }
        for (Method method : face.getDeclaredMethods()) {
            if (!Modifier.isPrivate(method.getModifiers())) {
                seen.add(method.toString());
            }
        }
        for (Constructor<?> constructor : face.getDeclaredConstructors()) {
            seen.add(constructor.toString());
        }
        Set<String> told = new TreeSet<>();
        seen.forEach(member -> told.add(member.replace("InterestNet.", "")));
        due(told.equals(new TreeSet<>(FACE.lines().toList())), "the face is " + told);
    }

    private static void classesInsideKeepTheRules() {
        Set<String> publicNames = new TreeSet<>();
        for (Method method : InterestNet.class.getMethods()) {
            if (method.getDeclaringClass() == InterestNet.class) {
                publicNames.add(method.getName());
            }
        }
        List<Class<?>> all = new ArrayList<>(List.of(InterestNet.class.getDeclaredClasses()));
        due(all.size() < 12, "fewer than twelve classes");
        all.add(InterestNet.class);
        for (Class<?> one : all) {
            due(one == InterestNet.class || Modifier.isStatic(one.getModifiers()), one + " is static");
            int fields = 0;
            for (Field field : one.getDeclaredFields()) {
                boolean isStatic = Modifier.isStatic(field.getModifiers());
                due(!isStatic || Modifier.isFinal(field.getModifiers()), field + " is final");
                fields += isStatic ? 0 : 1;
            }
            due(fields <= 20, one + " has at most twenty fields");
            for (Method method : one.getDeclaredMethods()) {
                due(Modifier.isPublic(method.getModifiers()) || !publicNames.contains(method.getName()),
                        method + " has a name of its own");
                due(method.getParameterCount() <= 7, method + " takes at most seven parameters");
            }
        }
    }

    private static String withoutComments(String text) {
        return text.replaceAll("(?s)/\\*.*?\\*/", "").replaceAll("//[^\n]*", "");
    }

    private static void textKeepsTheRules(String text) {
        for (String word : List.of("throw", "throws", "try", "catch", "finally", "synchronized", "assert", "instanceof",
                "package", "native", "volatile", "transient", "float", "double", "System.out", "hashCode", "toString")) {
            due(!Pattern.compile("\\b" + word + "\\b").matcher(text).find(), "no " + word);
        }
        due(!text.contains("->") && !text.contains("::"), "no lambda, no method reference");
        Matcher imports = Pattern.compile("(?m)^import .*$").matcher(text);
        while (imports.find()) {
            due(imports.group().equals("import java.util.Arrays;"), imports.group());
        }
        Matcher library = Pattern.compile("\\b(Arrays|System|Math|Integer|Long)\\.(\\w+)").matcher(text);
        while (library.find()) {
            due(Set.of("Arrays.fill", "System.arraycopy", "Math.min", "Math.max", "Integer.bitCount")
                    .contains(library.group()), library.group());
        }
        due(text.chars().allMatch(sign -> sign < 128), "signs up to 127 alone");
        // Objects are made with the object alone, so that no call makes one.
        Matcher made = Pattern.compile("(?m)^.*\\bnew\\b.*$").matcher(text);
        while (made.find()) {
            due(made.group().trim().startsWith("private final ") || made.group().contains("states[index] = new Net()"),
                    made.group());
        }
    }
}
