import java.io.IOException;
import java.lang.reflect.Executable;
import java.lang.reflect.Field;
import java.lang.reflect.Method;
import java.lang.reflect.Modifier;
import java.nio.file.Files;
import java.nio.file.Path;
import java.util.ArrayList;
import java.util.List;
import java.util.Set;
import java.util.TreeSet;
import java.util.regex.Matcher;
import java.util.regex.Pattern;

/** The rules of LANGUAGE.md that can be seen in the text (its path is the argument) or by reflection. */
public final class LanguageTest {
    private static final Check CHECK = new Check("LanguageTest");
    private static final String[] FACE = {
        "int act(int,int,int)", "int alone(int)", "int as(int,int)", "int at(int,int)", "int best()",
        "int book(int,int,int,int)", "int by(int)", "int chosen(int,int)", "int club()", "int comes(int,int)",
        "int count(int)", "int feed(int)", "int gain(int,int)", "int had(int,boolean)", "int hand(int)",
        "int image()", "int like(int,int)", "int looked()", "int member(int,int)", "int month(int)",
        "int of(int,int)", "int order(int,int,int)", "int reads(int,int)", "int row(int)", "int run(int,int,int)",
        "int told(int)", "int trace(int)", "int undo()", "long enough(int,int,int)"};

    public static void main(String[] args) throws IOException {
        face();
        inside();
        text(Files.readString(Path.of(args.length > 0 ? args[0] : "src/main/java/ClubReads.java")));
        CHECK.end();
    }

    private static void face() {
        Class<?> face = ClubReads.class;
        CHECK.holds("the class is public and final",
            Modifier.isPublic(face.getModifiers()) && Modifier.isFinal(face.getModifiers()));
        Set<String> open = new TreeSet<>();
        Set<String> names = new TreeSet<>();
        for (Method m : face.getDeclaredMethods()) {
            if (!Modifier.isPrivate(m.getModifiers())) {
                names.add(m.getName());
                open.add(m.getReturnType() + " " + m.getName() + parameters(m));
            }
        }
        CHECK.holds("the methods are those of the document: " + open, open.equals(new TreeSet<>(List.of(FACE))));
        for (Class<?> type : all()) {
            for (Method m : type.getDeclaredMethods()) {
                CHECK.holds("no other method bears the name " + m.getName(),
                    type == face && !Modifier.isPrivate(m.getModifiers()) || !names.contains(m.getName()));
            }
        }
        Set<String> constants = new TreeSet<>();
        for (Field f : face.getDeclaredFields()) {
            if (!Modifier.isPrivate(f.getModifiers())) {
                constants.add(f.toString());
            }
        }
        CHECK.due("open constants", constants.size(), 5);
        CHECK.due("constructors", face.getDeclaredConstructors().length, 1);
        CHECK.due("constructors without arguments", face.getConstructors()[0].getParameterCount(), 0);
    }

    private static String parameters(Method m) {
        List<String> names = new ArrayList<>();
        for (Class<?> type : m.getParameterTypes()) {
            names.add(type.toString());
        }
        return "(" + String.join(",", names) + ")";
    }

    private static List<Class<?>> all() {
        List<Class<?>> all = new ArrayList<>(List.of(ClubReads.class.getDeclaredClasses()));
        all.add(ClubReads.class);
        return all;
    }

    private static void inside() {
        CHECK.holds("twelve classes at most", all().size() <= 12);
        for (Class<?> type : all()) {
            int fields = 0;
            CHECK.holds(type + " is static", type == ClubReads.class || Modifier.isStatic(type.getModifiers()));
            for (Field f : type.getDeclaredFields()) {
                boolean isStatic = Modifier.isStatic(f.getModifiers());
                fields += isStatic ? 0 : 1;
                CHECK.holds(f + " is final if static", !isStatic || Modifier.isFinal(f.getModifiers()));
            }
            CHECK.holds(type + " has at most twenty fields", fields <= 20);
            List<Executable> codes = new ArrayList<>(List.of(type.getDeclaredMethods()));
            codes.addAll(List.of(type.getDeclaredConstructors()));
            for (Executable code : codes) {
                CHECK.holds(code + " has seven parameters at most", code.getParameterCount() <= 7);
            }
        }
    }

    private static void text(String source) {
        String bare = source.replaceAll("(?s)/\\*.*?\\*/", "").replaceAll("//[^\n]*", "")
            .replaceAll("\"[^\"\n]*\"", "\"\"").replaceAll("'.'", "' '");
        String[] banned = {"throw", "throws", "try", "catch", "finally", "synchronized", "assert", "import", "package",
            "protected", "volatile", "yield", "var", "Object", "Exception", "hashCode", "toString", "getClass"};
        for (String word : banned) {
            CHECK.holds("no " + word, !Pattern.compile("\\b" + word + "\\b").matcher(bare).find());
        }
        CHECK.holds("no lambda or method reference", !bare.contains("->") && !bare.contains("::"));
        CHECK.holds("no annotation", !bare.contains("@"));
        CHECK.holds("no text joined by +", !bare.contains("\" +") && !bare.contains("+ \""));
        CHECK.holds("no static block", !Pattern.compile("static\\s*\\{").matcher(bare).find());
        CHECK.holds("signs 1 to 127 alone", source.chars().allMatch(c -> c > 0 && c < 128));
        library(bare);
        lengths(bare);
    }

    private static void library(String bare) {
        Set<String> may = Set.of("System.arraycopy", "Math.max", "Math.min", "Integer.bitCount", "Long.MIN_VALUE");
        Matcher m = Pattern.compile("\\b(System|Math|Integer|Long|Arrays|String|Character|Runtime|Thread)\\.(\\w+)")
            .matcher(bare);
        while (m.find()) {
            CHECK.holds(m.group() + " may be used", may.contains(m.group()));
        }
    }

    /** A method begins at a line that ends in ) { and is no statement, and ends with a } as far in. */
    private static void lengths(String bare) {
        String[] lines = bare.split("\n");
        Pattern head = Pattern.compile("^(    |        )[a-zA-Z][\\w\\[\\] ]*\\(.*\\) \\{$");
        for (int i = 0; i < lines.length; i++) {
            Matcher m = head.matcher(lines[i]);
            if (m.find() && !lines[i].trim().matches("(if|for|while|switch)\\b.*")) {
                int end = i;
                while (end < lines.length && !lines[end].equals(m.group(1) + "}")) {
                    end++;
                }
                CHECK.holds("short: " + lines[i].trim(), end - i <= 60);
            }
        }
    }

    private LanguageTest() {
    }
}
