import java.io.IOException;
import java.lang.reflect.Executable;
import java.lang.reflect.Field;
import java.lang.reflect.Modifier;
import java.nio.file.Files;
import java.nio.file.Path;
import java.util.ArrayList;
import java.util.List;
import java.util.regex.Matcher;
import java.util.regex.Pattern;

/** Those rules of LANGUAGE.md for the program that can be seen in its text and its classes. */
final class LanguageTest {
    private static final Due DUE = new Due("LanguageTest");
    private static final Path PROGRAM = Path.of("src/main/java/NestedStore.java");
    private static final String[] RULED_OUT = {
        "package", "import", "protected", "throw", "throws", "try", "catch", "finally",
        "synchronized", "assert", "native", "volatile", "goto", "equals", "hashCode", "toString"
    };

    public static void main(String[] args) throws IOException {
        String text = withoutComments(Files.readString(PROGRAM));
        wordsRuledOut(text);
        madeInConstructorsAlone(text);
        methodsAreShort(text);
        List<Class<?>> classes = new ArrayList<>(List.of(NestedStore.class.getDeclaredClasses()));
        classes.add(NestedStore.class);
        DUE.yes("rule 11: at most twelve classes", classes.size() <= 12);
        for (Class<?> each : classes) {
            fields(each);
            parameters(each);
        }
        DUE.end();
    }

    /** The program has no texts of its own in which the signs of a comment could stand. */
    private static String withoutComments(String text) {
        DUE.is("the program has no texts", text.contains("\""), false);
        return text.replaceAll("(?s)/\\*.*?\\*/", "").replaceAll("//[^\n]*", "");
    }

    private static void wordsRuledOut(String text) {
        for (String word : RULED_OUT) {
            boolean found = Pattern.compile("\\b" + word + "\\b").matcher(text).find();
            DUE.is("rules 1, 4 and 6: " + word, found, false);
        }
        DUE.is("rule 2: a lambda", text.contains("->"), false);
        DUE.is("rule 2: a method reference", text.contains("::"), false);
        DUE.is("rule 5: a static block", Pattern.compile("static\\s*\\{").matcher(text).find(), false);
        Matcher library = Pattern.compile("\\b(?:System|Arrays|Integer|Long|String|List)\\b").matcher(text);
        DUE.is("rule 4: Math alone is needed", library.find(), false);
        DUE.is("rule 9: a loop without a bound", text.contains("while (true)"), false);
    }

    /** Rule 12, and the room of all calls of a run: a call makes nothing. */
    private static void madeInConstructorsAlone(String text) {
        for (String line : text.split("\n")) {
            if (Pattern.compile("\\bnew\\b").matcher(line).find()) {
                String made = line.strip();
                boolean field = made.matches("(private )?final [A-Za-z]+(\\[\\])? [a-zA-Z]+ = new .*;");
                boolean constructor = made.startsWith("pages = new Pages(");
                DUE.yes("made in a constructor: " + made, field || constructor);
            }
        }
    }

    private static void methodsAreShort(String text) {
        String[] lines = text.split("\n");
        int start = -1;
        String indent = "";
        for (int i = 0; i < lines.length; i++) {
            boolean opens = lines[i].endsWith(") {") && lines[i].matches("(    | {8})[A-Za-z].*");
            boolean statement = lines[i].strip().matches("(if|for|while|switch|else) .*");
            if (start < 0 && opens && !statement) {
                start = i;
                indent = lines[i].replaceAll("\\S.*", "");
            } else if (start >= 0 && lines[i].equals(indent + "}")) {
                DUE.yes("rule 11: short: " + lines[start].strip(), i - start < 60);
                start = -1;
            }
        }
        DUE.is("all methods were seen to end", start, -1);
    }

    private static void fields(Class<?> each) {
        int held = 0;
        for (Field field : each.getDeclaredFields()) {
            int modifiers = field.getModifiers();
            if (Modifier.isStatic(modifiers)) {
                boolean constant = Modifier.isFinal(modifiers) && field.getType() == int.class;
                DUE.yes("rule 5: a constant: " + field, constant);
            } else {
                held++;
                Class<?> type = field.getType();
                Class<?> part = type.isArray() ? type.getComponentType() : type;
                boolean own = part.getEnclosingClass() == NestedStore.class;
                DUE.yes("rule 3: a type of its own or a number: " + field, own || part.isPrimitive());
            }
        }
        DUE.yes("rule 11: at most twenty fields in " + each, held <= 20);
    }

    private static void parameters(Class<?> each) {
        List<Executable> all = new ArrayList<>(List.of(each.getDeclaredMethods()));
        all.addAll(List.of(each.getDeclaredConstructors()));
        for (Executable one : all) {
            DUE.yes("rule 11: at most seven parameters: " + one, one.getParameterCount() <= 7);
        }
    }
}
