import java.io.IOException;
import java.lang.reflect.Constructor;
import java.lang.reflect.Field;
import java.lang.reflect.Method;
import java.lang.reflect.Modifier;
import java.nio.file.Files;
import java.nio.file.Path;
import java.util.ArrayList;
import java.util.List;
import java.util.Set;
import java.util.TreeSet;
import java.util.regex.Matcher;
import java.util.regex.Pattern;

/** The class has the document's face and no other, and its file keeps to what can be seen of LANGUAGE.md. */
public final class FaceTest {

    private static final String[] FACE = {
        "public int RoundStool.state(int)", "public boolean RoundStool.stool(int)", "public boolean RoundStool.colour(int,int)",
        "public boolean RoundStool.slip(int)", "public int RoundStool.feed(int,int,int,int,int)", "public boolean RoundStool.end(int)",
        "public int RoundStool.text(int)", "public int RoundStool.fault(int)", "public int RoundStool.sing(int,int)",
        "public int RoundStool.at(int,int)", "public int RoundStool.of(int,int)", "public int RoundStool.over(int,int)",
        "public int RoundStool.outside(int,int)", "public int RoundStool.back(int,int)",
        "public int RoundStool.where(int,int,int,boolean)", "public boolean RoundStool.want(int,int)",
        "public int RoundStool.fewest(int)", "public int RoundStool.cut(int)", "public int RoundStool.dropped(int,int,int)",
        "public int RoundStool.beats(int,int)", "public boolean RoundStool.name(int,int)", "public int RoundStool.lay(int)",
        "public int RoundStool.pulled(int)", "public int RoundStool.loops(int)", "public int RoundStool.alike(int,int)",
        "public int RoundStool.period(int)", "public boolean RoundStool.undo()", "public boolean RoundStool.image(boolean)",
        "public int RoundStool.look(int)"};

    private static final String[] FORBIDDEN = {
        "throw", "throws", "try", "catch", "finally", "synchronized", "assert", "->", "::", "package", "var", "NaN", "Exact",
        "hashCode", "toString", "volatile", "transient", "native", "strictfp", "Object", "System.out", "System.nano", "Random"};

    private static int wrong = 0;

    public static void main(String[] args) throws IOException {
        face();
        for (Class<?> inside : RoundStool.class.getDeclaredClasses()) {
            insideClass(inside);
        }
        check(RoundStool.class.getDeclaredClasses().length <= 12, "too many classes");
        source(Files.readString(Path.of(args.length > 0 ? args[0] : "src/main/java/RoundStool.java")));
        System.out.println(wrong == 0 ? "FaceTest: all as due" : "FaceTest: " + wrong + " wrong");
        if (wrong > 0) {
            System.exit(1);
        }
    }

    private static void check(boolean holds, String what) {
        if (!holds) {
            wrong++;
            System.out.println(what);
        }
    }

    private static void face() {
        check(Modifier.isFinal(RoundStool.class.getModifiers()) && Modifier.isPublic(RoundStool.class.getModifiers()), "class");
        check(RoundStool.NONE == -1, "NONE");
        Set<String> due = new TreeSet<>(List.of(FACE));
        Set<String> names = new TreeSet<>();
        for (Method m : RoundStool.class.getDeclaredMethods()) {
            if (Modifier.isPublic(m.getModifiers())) {
                check(due.remove(m.toString()), "not of the face: " + m);
                names.add(m.getName());
            }
        }
        check(due.isEmpty(), "wanting: " + due);
        for (Method m : RoundStool.class.getDeclaredMethods()) {
            int how = m.getModifiers();
            check(Modifier.isPublic(how) || Modifier.isPrivate(how), "neither public nor private: " + m);
            check(Modifier.isPublic(how) || !names.contains(m.getName()), "bears a public name: " + m);
        }
        for (Field f : RoundStool.class.getDeclaredFields()) {
            check(Modifier.isPrivate(f.getModifiers()) || f.getName().equals("NONE"), "field seen: " + f);
        }
        Constructor<?>[] constructors = RoundStool.class.getDeclaredConstructors();
        check(constructors.length == 1 && constructors[0].getParameterCount() == 0, "constructors");
    }

    private static void insideClass(Class<?> inside) {
        check(Modifier.isStatic(inside.getModifiers()), "not static: " + inside);
        int fields = 0;
        for (Field f : inside.getDeclaredFields()) {
            boolean isStatic = Modifier.isStatic(f.getModifiers());
            check(!isStatic || Modifier.isFinal(f.getModifiers()), "static, not final: " + f);
            check(!isStatic || f.getType().isPrimitive(), "static, no number: " + f);
            fields += isStatic ? 0 : 1;
        }
        check(fields <= 20, "too many fields: " + inside);
        for (Method m : inside.getDeclaredMethods()) {
            check(m.getParameterCount() <= 7, "too many parameters: " + m);
            for (String face : FACE) {
                check(!face.contains("." + m.getName() + "("), "bears a public name: " + m);
            }
        }
    }

    private static void source(String text) {
        for (int i = 0; i < text.length(); i++) {
            check(text.charAt(i) < 128, "a sign beyond 127 at " + i);
        }
        String code = text.replaceAll("(?s)/\\*.*?\\*/", "").replaceAll("//[^\n]*", "");
        for (String word : FORBIDDEN) {
            boolean isWord = Character.isLetter(word.charAt(0));
            Matcher m = Pattern.compile(isWord ? "\\b" + Pattern.quote(word) + "\\b" : Pattern.quote(word)).matcher(code);
            check(!m.find(), "forbidden: " + word);
        }
        List<String> imports = new ArrayList<>();
        Matcher m = Pattern.compile("import ([^;]*);").matcher(code);
        while (m.find()) {
            imports.add(m.group(1));
        }
        check(imports.equals(List.of("java.util.Arrays")), "imports: " + imports);
        shortMethods(text);
    }

    /** The bodies of methods stand at one or two levels in. */
    private static void shortMethods(String text) {
        String[] lines = text.split("\n");
        for (int i = 0; i < lines.length; i++) {
            Matcher m = Pattern.compile("( {4}| {8})[a-zA-Z].*\\) \\{").matcher(lines[i]);
            if (m.matches() && !lines[i].trim().matches("(if|for|while|switch|\\}).*")) {
                int end = i;
                while (end < lines.length && !lines[end].equals(m.group(1) + "}")) {
                    end++;
                }
                check(end - i < 60, "a long method: " + lines[i]);
            }
        }
    }
}
