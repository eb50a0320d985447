import java.io.DataInputStream;
import java.io.IOException;
import java.io.InputStream;
import java.lang.reflect.Field;
import java.lang.reflect.Modifier;
import java.nio.file.Files;
import java.nio.file.Path;
import java.util.ArrayList;
import java.util.List;
import java.util.Set;
import java.util.regex.Matcher;
import java.util.regex.Pattern;

/** Those rules of ../shared/LANGUAGE.md that can be seen in the text and in the compiled classes. */
final class LanguageTest {
    private static final Path SOURCE = Path.of("src/main/java/ExpressionCompiler.java");
    private static final Set<String> LIBRARY = Set.of(
            "java/lang/Object.<init>()V",
            "java/lang/Math.max(II)I",
            "java/lang/Math.min(II)I",
            "java/lang/StringBuilder.<init>()V",
            "java/lang/StringBuilder.append(C)Ljava/lang/StringBuilder;",
            "java/lang/StringBuilder.append(I)Ljava/lang/StringBuilder;",
            "java/lang/StringBuilder.charAt(I)C",
            "java/lang/StringBuilder.length()I",
            "java/lang/StringBuilder.setLength(I)V",
            "java/lang/IllegalStateException.<init>(Ljava/lang/String;)V",
            "java/lang/IllegalArgumentException.<init>(Ljava/lang/String;)V",
            "java/lang/IndexOutOfBoundsException.<init>(Ljava/lang/String;)V",
            "java/lang/ArithmeticException.<init>(Ljava/lang/String;)V",
            "java/lang/UnsupportedOperationException.<init>(Ljava/lang/String;)V",
            "java/util/NoSuchElementException.<init>(Ljava/lang/String;)V");
    private static final String[] FORBIDDEN = {
        "->", "::", "\\btry\\b", "\\bcatch\\b", "\\bfinally\\b", "\\bsynchronized\\b", "\\bassert\\b", "\\bpackage\\b",
        "\\bprotected\\b", "\\bvar\\b", "\\bstatic\\s*\\{", "\\bthrow\\s+(?!new )", "\\bSystem\\b", "Exact\\b", "@", "\\bnative\\b",
    };
    private static final Due DUE = new Due();

    private static void text() throws IOException {
        String source = Files.readString(SOURCE);
        DUE.is("all characters are plain", true, source.chars().allMatch(c -> c == '\n' || c >= ' ' && c < 127));
        String bare = source.replaceAll("(?s)/\\*.*?\\*/", "").replaceAll("//[^\n]*", "")
                .replaceAll("'[^']*'", "' '").replaceAll("\"[^\"\n]*\"", "\"\"");
        for (String pattern : FORBIDDEN) {
            Matcher found = Pattern.compile(pattern).matcher(bare);
            DUE.is(pattern + " stands in the source", false, found.find());
        }
        Matcher imports = Pattern.compile("\\bimport [^;]*;").matcher(bare);
        while (imports.find()) {
            DUE.is("import", "import java.util.NoSuchElementException;", imports.group());
        }
        Matcher classes = Pattern.compile("\\b(class|record|enum|interface) \\w+").matcher(bare);
        int count = 0;
        while (classes.find()) {
            count++;
        }
        DUE.is("at most twelve classes", true, count <= 12);
        methods(bare.split("\n"));
    }

    private static void methods(String[] lines) {
        int start = 0;
        for (int i = 0; i < lines.length; i++) {
            String line = lines[i];
            if (line.matches(" {4}( {4})?\\S.*\\(.*") && !line.contains(";") && !line.trim().startsWith("}")) {
                start = i;
                String parameters = line.replaceAll("[^(]*\\(([^)]*)\\).*", "$1");
                DUE.is("parameters of " + line.trim(), true, parameters.split(",").length <= 7);
            }
            if (line.equals("    }") || line.equals("        }")) {
                DUE.is("lines of " + lines[start].trim(), true, i - start < 60 || !lines[start].contains("("));
            }
        }
    }

    private static void fields(Class<?> owner) {
        int own = 0;
        for (Field field : owner.getDeclaredFields()) {
            int modifiers = field.getModifiers();
            if (Modifier.isStatic(modifiers)) {
                DUE.is(field + " is final", true, Modifier.isFinal(modifiers));
            } else {
                own++;
            }
        }
        DUE.is("fields of " + owner, true, own <= 20);
        DUE.is(owner + " is private and static, or the public one", true, owner == ExpressionCompiler.class
                || Modifier.isPrivate(owner.getModifiers()) && Modifier.isStatic(owner.getModifiers()));
    }

    /** Every method of the library that a class file refers to must be a permitted one. */
    private static void library(Class<?> owner) throws IOException {
        try (InputStream file = owner.getResourceAsStream(owner.getName() + ".class");
                DataInputStream data = new DataInputStream(file)) {
            data.skipBytes(8);
            int count = data.readUnsignedShort();
            int[] tags = new int[count];
            String[] texts = new String[count];
            int[][] links = new int[count][2];
            for (int i = 1; i < count; i++) {
                tags[i] = data.readUnsignedByte();
                switch (tags[i]) {
                    case 1 -> texts[i] = data.readUTF();
                    case 3, 4 -> data.readInt();
                    case 5, 6 -> {
                        data.readLong();
                        i++;
                    }
                    case 7, 8, 16 -> links[i][0] = data.readUnsignedShort();
                    default -> {
                        links[i][0] = data.readUnsignedShort();
                        links[i][1] = data.readUnsignedShort();
                    }
                }
            }
            for (int i = 1; i < count; i++) {
                DUE.is("dynamic call in " + owner, false, tags[i] == 15 || tags[i] == 17 || tags[i] == 18);
                if (tags[i] == 10 || tags[i] == 11) {
                    String type = texts[links[links[i][0]][0]];
                    int[] name = links[links[i][1]];
                    String called = type + "." + texts[name[0]] + texts[name[1]];
                    DUE.is(called + " is permitted", true,
                            type.startsWith("ExpressionCompiler") || LIBRARY.contains(called));
                }
            }
        }
    }

    public static void main(String[] args) throws IOException {
        text();
        List<Class<?>> classes = new ArrayList<>(List.of(ExpressionCompiler.class.getDeclaredClasses()));
        classes.add(ExpressionCompiler.class);
        for (Class<?> owner : classes) {
            fields(owner);
            library(owner);
        }
        DUE.end();
    }
}
