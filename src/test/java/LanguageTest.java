import java.lang.reflect.Field;
import java.lang.reflect.Method;
import java.lang.reflect.Modifier;
import java.nio.file.Files;
import java.nio.file.Path;
import java.util.ArrayList;
import java.util.List;
import java.util.Set;
import java.util.TreeSet;
import java.util.regex.Matcher;
import java.util.regex.Pattern;

/** The face of the document, and those rules of LANGUAGE.md that can be seen in the text. */
public final class LanguageTest {
    private static int wrong = 0;

    private static void must(boolean so, String what) {
        if (!so) {
            wrong++;
            System.out.println("not so: " + what);
        }
    }

    private static String withoutCommentsAndTexts(String source) {
        return source.replaceAll("(?s)/\\*.*?\\*/", "").replaceAll("\"[^\"\n]*\"", "\"\"").replaceAll("//[^\n]*", "");
    }

    private static void face(Path document) throws Exception {
        Set<String> want = new TreeSet<>();
        Matcher line = Pattern.compile("(?m)^    public int (\\w+)\\(([^)]*)\\);").matcher(Files.readString(document));
        while (line.find()) {
            int takes = line.group(2).isEmpty() ? 0 : line.group(2).split(",").length;
            want.add(line.group(1) + takes);
        }
        Set<String> got = new TreeSet<>();
        Set<String> names = new TreeSet<>();
        for (Method m : CatNeed.class.getDeclaredMethods()) {
            if (Modifier.isPublic(m.getModifiers())) {
                got.add(m.getName() + m.getParameterCount());
                names.add(m.getName());
                must(m.getReturnType() == int.class, m.getName() + " answers an int");
            }
        }
        must(want.size() == 32 && want.equals(got), "the face is " + want + ", not " + got);
        for (Method m : CatNeed.class.getDeclaredMethods()) {
            boolean isPublic = Modifier.isPublic(m.getModifiers());
            must(isPublic || Modifier.isPrivate(m.getModifiers()), m.getName() + " is private");
            must(isPublic || !names.contains(m.getName()), m.getName() + " bears no public name");
        }
        must(CatNeed.class.getConstructors().length == 1, "one public constructor");
        must(CatNeed.class.getFields().length == 1 && CatNeed.NONE == -1, "one public constant");
        must(Modifier.isFinal(CatNeed.class.getModifiers()), "final");
        for (Class<?> inside : CatNeed.class.getDeclaredClasses()) {
            must(Modifier.isStatic(inside.getModifiers()), inside + " is static");
            must(!Modifier.isPublic(inside.getModifiers()) && !Modifier.isProtected(inside.getModifiers()), inside + " is not public");
            int fields = 0;
            for (Field field : inside.getDeclaredFields()) {
                fields += Modifier.isStatic(field.getModifiers()) ? 0 : 1;
                must(!Modifier.isStatic(field.getModifiers()) || Modifier.isFinal(field.getModifiers()), inside + "." + field.getName() + " is final");
            }
            must(fields <= 22, inside + " has some twenty fields");
            for (Method m : inside.getDeclaredMethods()) {
                must(!Modifier.isPrivate(m.getModifiers()) || !names.contains(m.getName()), inside + "." + m.getName() + " bears no public name");
            }
        }
        must(CatNeed.class.getDeclaredClasses().length <= 13, "some twelve classes");
    }

    private static void words(String source) {
        String[] none = {"throw", "try", "catch", "synchronized", "assert", "native", "package", "protected", "hashCode",
            "import (?!java\\.util\\.(ArrayList|List|Iterator|Arrays);)", "static \\{", "::", "new \\w+\\([^()]*\\) \\{", "Exact\\(", "System\\.(?!arraycopy)"};
        for (String word : none) {
            String bounded = word.matches("\\w+") ? "\\b" + word + "\\b" : word;
            must(!Pattern.compile(bounded).matcher(source).find(), "no " + word);
        }
        must(!Pattern.compile("(?m)^(?!\\s*(case|default)\\b).*->").matcher(source).find(), "no lambda");
        must(!Pattern.compile("while \\(true\\)|for \\(;|; ;").matcher(source).find(), "loops with an end");
        StringBuilder own = new StringBuilder("int\\[|long\\[|short\\[|byte\\[|char\\[|boolean\\[|double\\[|String|StringBuilder|ArrayList");
        for (Class<?> inside : CatNeed.class.getDeclaredClasses()) {
            own.append('|').append(inside.getSimpleName());
        }
        must(!Pattern.compile("\\bnew (?!" + own + ")").matcher(source).find(), "no objects but its own");
    }

    private static void methods(String source) {
        Pattern head = Pattern.compile("^( {4}| {8})(public |private |static |final )*[\\w\\[\\]]+ \\w+\\(([^)]*)\\) \\{$");
        List<String> lines = new ArrayList<>(List.of(source.split("\n")));
        int seen = 0;
        for (int i = 0; i < lines.size(); i++) {
            Matcher m = head.matcher(lines.get(i));
            if (m.find()) {
                seen++;
                int end = lines.subList(i, lines.size()).indexOf(m.group(1) + "}");
                must(end > 0 && end <= 70, "some sixty lines: " + lines.get(i));
                must(m.group(3).split(",").length <= 7, "seven parameters: " + lines.get(i));
            }
        }
        must(seen >= 33, "methods are found");
    }

    public static void main(String[] args) throws Exception {
        String source = withoutCommentsAndTexts(Files.readString(Path.of("src/main/java/CatNeed.java")));
        face(Path.of("../shared/DOC.md"));
        words(source);
        methods(source);
        System.out.println(wrong == 0 ? "language: all is so" : "language: " + wrong + " are not so");
        if (wrong != 0) {
            System.exit(1);
        }
    }
}
