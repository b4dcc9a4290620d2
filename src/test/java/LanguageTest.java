import java.lang.reflect.Method;
import java.lang.reflect.Modifier;
import java.nio.file.Files;
import java.nio.file.Path;
import java.util.ArrayList;
import java.util.List;
import java.util.Set;
import java.util.TreeSet;
import java.util.regex.Matcher;
import java.util.regex.Pattern;

/** The face of the document, and those rules of LANGUAGE.md that can be seen in the text. */
public final class LanguageTest {
    private static int wrong = 0;

    private static void must(boolean so, String what) {
        if (!so) {
            wrong++;
            System.out.println("not so: " + what);
        }
    }

    private static String withoutCommentsAndTexts(String source) {
        return source.replaceAll("(?s)/\\*.*?\\*/", "").replaceAll("\"[^\"\n]*\"", "\"\"").replaceAll("//[^\n]*", "");
    }

    private static void face(Path document) throws Exception {
        Set<String> want = new TreeSet<>();
        Matcher line = Pattern.compile("(?m)^    public int (\\w+)\\(([^)]*)\\);").matcher(Files.readString(document));
        while (line.find()) {
            int takes = line.group(2).isEmpty() ? 0 : line.group(2).split(",").length;
            want.add(line.group(1) + takes);
        }
        Set<String> got = new TreeSet<>();
        Set<String> names = new TreeSet<>();
        for (Method m : CatNeed.class.getDeclaredMethods()) {
            if (Modifier.isPublic(m.getModifiers())) {
                got.add(m.getName() + m.getParameterCount());
                names.add(m.getName());
                must(m.getReturnType() == int.class, m.getName() + " answers an int");
            }
        }
        must(want.size() == 32 && want.equals(got), "the face is " + want + ", not " + got);
        for (Method m : CatNeed.class.getDeclaredMethods()) {
            boolean isPublic = Modifier.isPublic(m.getModifiers());
            must(isPublic || Modifier.isPrivate(m.getModifiers()), m.getName() + " is private");
            must(isPublic || !names.contains(m.getName()), m.getName() + " bears no public name");
        }
        must(CatNeed.class.getConstructors().length == 1, "one public constructor");
        must(CatNeed.class.getFields().length == 1 && CatNeed.NONE == -1, "one public constant");
        must(Modifier.isFinal(CatNeed.class.getModifiers()), "final");
        for (Class<?> inside : CatNeed.class.getDeclaredClasses()) {
            must(Modifier.isStatic(inside.getModifiers()), inside + " is static");
            must(inside.getDeclaredFields().length <= 30, inside + " has few fields");
            for (Method m : inside.getDeclaredMethods()) {
                must(!names.contains(m.getName()), inside + "." + m.getName() + " bears no public name");
            }
        }
        must(CatNeed.class.getDeclaredClasses().length <= 11, "twelve classes at most");
    }

    private static void words(String source) {
        String[] none = {"throw", "try", "catch", "synchronized", "assert", "import", "static \\{", "->", "::", "new \\w+\\(\\) \\{",
            "Exact\\(", "package", "native", "volatile", "transient", "protected", "System\\.(?!arraycopy)", "equals\\(", "hashCode", "toString"};
        for (String word : none) {
            String bounded = word.matches("\\w+") ? "\\b" + word + "\\b" : word;
            must(!Pattern.compile(bounded).matcher(source).find(), "no " + word);
        }
        must(!Pattern.compile("while \\(true\\)|for \\(;|; ;").matcher(source).find(), "loops with an end");
        must(!Pattern.compile("new (?!Rule|Whole|Tape|State|Told|int\\[|long\\[)").matcher(source).find(), "no other objects");
    }

    private static void methods(String source) {
        Pattern head = Pattern.compile("^( {4}| {8})(public |private |static |final )*[\\w\\[\\]]+ \\w+\\(([^)]*)\\) \\{$");
        List<String> lines = new ArrayList<>(List.of(source.split("\n")));
        int seen = 0;
        for (int i = 0; i < lines.size(); i++) {
            Matcher m = head.matcher(lines.get(i));
            if (m.find()) {
                seen++;
                int end = lines.subList(i, lines.size()).indexOf(m.group(1) + "}");
                must(end > 0 && end <= 60, "some sixty lines: " + lines.get(i));
                must(m.group(3).split(",").length <= 7, "seven parameters: " + lines.get(i));
            }
        }
        must(seen > 60, "methods are found");
    }

    public static void main(String[] args) throws Exception {
        String source = withoutCommentsAndTexts(Files.readString(Path.of("src/main/java/CatNeed.java")));
        face(Path.of("../shared/DOC.md"));
        words(source);
        methods(source);
        System.out.println(wrong == 0 ? "language: all is so" : "language: " + wrong + " are not so");
        if (wrong != 0) {
            System.exit(1);
        }
    }
}
