import java.io.IOException;
import java.lang.reflect.Constructor;
import java.lang.reflect.Executable;
import java.lang.reflect.Field;
import java.lang.reflect.Method;
import java.lang.reflect.Modifier;
import java.nio.file.Files;
import java.nio.file.Path;
import java.util.ArrayList;
import java.util.List;
import java.util.Set;
import java.util.regex.Matcher;
import java.util.regex.Pattern;

/** What can be told of LANGUAGE.md's rules from the program's text and from its compiled classes. */
public final class LanguageTest {
    private static final Path SOURCE = Path.of("src/main/java/ParcelLine.java");
    private static final String[] WORDS_LEFT_OUT = {"try", "catch", "finally", "synchronized", "assert", "instanceof",
        "native", "volatile", "transient", "Object", "System", "Thread", "Random", "Math", "hashCode", "equals", "toString"};
    private static final int MOST_LINES = 60;
    private static final int MOST_PARAMETERS = 7;
    private static final int MOST_CLASSES = 12;
    private static final int MOST_FIELDS = 20;

    public static void main(String[] args) throws IOException {
        String text = Files.readString(SOURCE);
        String code = withoutComments(text);
        imports(code);
        words(withoutTexts(code));
        exceptions(code);
        objects(withoutTexts(code));
        lengths(withoutTexts(code));
        classes();
        Due.end();
    }

    private static String withoutComments(String text) {
        return text.replaceAll("(?s)/\\*.*?\\*/", "").replaceAll("(?m)^\\s*//.*$", "");
    }

    private static String withoutTexts(String code) {
        return code.replaceAll("\"[^\"]*\"", "\"\"").replaceAll("'[^']*'", "' '");
    }

    private static void imports(String code) {
        Due.sentence("4. The library: only what stands here.");
        for (String line : code.split("\n")) {
            if (line.startsWith("import")) {
                Due.is("an import", line, "import java.util.NoSuchElementException;");
            }
        }
        Due.is("a package", code.contains("package "), false);
    }

    private static void words(String code) {
        Due.sentence("2. no lambda, no method reference; 6. and 13.: what the program does without");
        for (String word : WORDS_LEFT_OUT) {
            Due.is(word, Pattern.compile("\\b" + word + "\\b").matcher(code).find(), false);
        }
        Due.is("an arrow", code.contains("->"), false);
        Due.is("a method reference", code.contains("::"), false);
        Due.is("texts joined by +", Pattern.compile("\"\\s*\\+|\\+\\s*\"").matcher(code).find(), false);
        Due.is("a static initialiser", Pattern.compile("static\\s*\\{").matcher(code).find(), false);
    }

    private static void exceptions(String code) {
        Due.sentence("6. throw new E() or throw new E(\"a written text\")");
        Pattern written = Pattern.compile(
            "throw new (IllegalStateException|IllegalArgumentException|NoSuchElementException)\\(\"[^\"]*\"\\);");
        Due.is("throw statements", count("\\bthrow\\b", code), count(written.pattern(), code));
    }

    private static int count(String pattern, String code) {
        int found = 0;
        for (Matcher matcher = Pattern.compile(pattern).matcher(code); matcher.find();) {
            found++;
        }
        return found;
    }

    /** The room of a run is kept small by this: objects are made in constructors alone, and to be thrown. */
    private static void objects(String code) {
        Due.sentence("12. What a run makes is counted");
        for (Block block : blocks(code)) {
            boolean isConstructor = block.head.matches("(public )?[A-Z]\\w*\\(.*");
            int made = count("\\bnew\\b", block.body) - count("\\bthrow new\\b", block.body);
            Due.is("objects made in " + block.head, isConstructor || made == 0, true);
        }
    }

    private static void lengths(String code) {
        Due.sentence("11. Methods stay short (some sixty lines)");
        List<Block> all = blocks(code);
        Due.is("methods were found", all.size() > 100, true);
        for (Block block : all) {
            Due.is("lines of " + block.head, block.body.split("\n").length <= MOST_LINES, true);
        }
    }

    private record Block(String head, String body) {
    }

    /** The methods and constructors, found by the depth of their lines. */
    private static List<Block> blocks(String code) {
        List<Block> found = new ArrayList<>();
        Pattern head = Pattern.compile(
            "(?m)^( {4}| {8})((?!(?:if|for|while|switch)\\b)\\w.*\\(.*\\)(?:\\s+throws [\\w, ]+)?) \\{$");
        for (Matcher matcher = head.matcher(code); matcher.find();) {
            int end = code.indexOf("\n" + matcher.group(1) + "}", matcher.end());
            found.add(new Block(matcher.group(2), code.substring(matcher.end(), end)));
        }
        return found;
    }

    private static void classes() {
        Class<?>[] inner = ParcelLine.class.getDeclaredClasses();
        Due.sentence("11. the file has at most some twelve classes");
        Due.is("classes", inner.length + 1 <= MOST_CLASSES, true);
        parts(ParcelLine.class);
        for (Class<?> one : inner) {
            parts(one);
        }
    }

    private static void parts(Class<?> owner) {
        Due.sentence("11. A method takes at most seven parameters, a class has some twenty fields beside its constants");
        int fields = 0;
        for (Field field : owner.getDeclaredFields()) {
            fields += Modifier.isStatic(field.getModifiers()) ? 0 : 1;
        }
        Due.is("fields of " + owner, fields <= MOST_FIELDS, true);
        for (Constructor<?> constructor : owner.getDeclaredConstructors()) {
            parameters(constructor);
        }
        for (Method method : owner.getDeclaredMethods()) {
            parameters(method);
        }
        Due.sentence("5. Static fields are final, constants; 2. An enum's fields are int, long, boolean or String");
        Due.is("the nested classes of " + owner, owner == ParcelLine.class || owner.getDeclaredClasses().length == 0, true);
        for (Field field : owner.getDeclaredFields()) {
            fieldFits(owner, field);
        }
    }

    private static void parameters(Executable called) {
        Due.is("parameters of " + called, called.getParameterCount() <= MOST_PARAMETERS, true);
    }

    private static void fieldFits(Class<?> owner, Field field) {
        Set<Class<?>> plain = Set.of(int.class, long.class, boolean.class, char.class, String.class);
        boolean isStatic = Modifier.isStatic(field.getModifiers());
        boolean isOfEnum = owner.isEnum() && (field.isSynthetic() || field.isEnumConstant() || field.getType().isArray());
        if (isStatic) {
            Due.is(field + " is final", Modifier.isFinal(field.getModifiers()), true);
        }
        if (isStatic || owner.isEnum()) {
            Due.is("the type of " + field, isOfEnum || plain.contains(field.getType()), true);
        }
    }
}
