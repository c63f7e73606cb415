import java.io.IOException;
import java.lang.reflect.Field;
import java.lang.reflect.Method;
import java.lang.reflect.Modifier;
import java.nio.file.Files;
import java.nio.file.Path;
import java.util.ArrayList;
import java.util.List;
import java.util.Set;
import java.util.TreeSet;
import java.util.regex.Matcher;
import java.util.regex.Pattern;

/** The public face as the document tells it, and those rules of LANGUAGE.md that a test can see. */
public final class FaceTest {
    private static final String FACE = "feed(int,int,int,int,int)int end(int)boolean fault(int)int text(int)int rule(int)int cluster(int,int)int "
            + "point(int,int,int)int core(int,int)int task(int,int)int name(int,int,int)int asked(int,int)int tick(int)int move(int,int)int "
            + "ask(int,int,int)int drop(int)int stop(int)int start(int)int settle()int years(int,long)int status(int)int undo()int log(int,int)int "
            + "price()int best(int,int)int greedy(int,int)int moves()int race(int,int,int,int)int ahead(int,int)int bound(int,int)int odds(int)int "
            + "step(int,int,int)int run(int,int)int perform(int)int all(int)int image()int back()int count(int)int";
    private static final String[] NOT_ALLOWED = {"->", "::", "\\bfinally\\b", "\\bassert\\b", "\\bsynchronized\\b", "\\bpackage\\b", "\\bvar\\b",
        "Exact\\b", "System\\.(?!arraycopy)", "Math\\.(?!min|max|abs|floorMod|floorDiv)", "\\bcatch\\b", "\\.stream\\b", "String\\.", "\\bObject\\b"};
    private static final Checks CHECKS = new Checks();

    public static void main(String[] args) throws IOException {
        face();
        everythingElseIsPrivate();
        source();
        CHECKS.close("FaceTest");
    }

    private static void face() {
        Set<String> want = new TreeSet<>(List.of(FACE.split(" ")));
        Set<String> got = new TreeSet<>();
        for (Method m : SpeedDesk.class.getDeclaredMethods()) {
            if (Modifier.isPublic(m.getModifiers())) {
                List<String> types = new ArrayList<>();
                for (Class<?> type : m.getParameterTypes()) {
                    types.add(type.getName());
                }
                got.add(m.getName() + "(" + String.join(",", types) + ")" + m.getReturnType().getName());
            }
        }
        CHECKS.due("37 methods", want.size(), 37);
        same("the face: " + got, got.equals(want));
        CHECKS.due("constructors", SpeedDesk.class.getDeclaredConstructors().length, 1);
        same("a public final class", Modifier.isPublic(SpeedDesk.class.getModifiers()) && Modifier.isFinal(SpeedDesk.class.getModifiers()));
        same("the constructor is public", SpeedDesk.class.getConstructors().length == 1);
    }

    private static void same(String what, boolean is) {
        CHECKS.due(what, is, true);
    }

    private static void everythingElseIsPrivate() {
        Set<String> names = new TreeSet<>();
        for (String method : FACE.split(" ")) {
            names.add(method.substring(0, method.indexOf('(')));
        }
        for (Field f : SpeedDesk.class.getDeclaredFields()) {
            boolean constant = f.getName().equals("NONE") || f.getName().equals("HIDDEN");
            same("field " + f.getName(), Modifier.isPublic(f.getModifiers()) == constant && (constant || Modifier.isPrivate(f.getModifiers())));
            same("no static state: " + f.getName(), !Modifier.isStatic(f.getModifiers()) || Modifier.isFinal(f.getModifiers()));
        }
        for (Method m : SpeedDesk.class.getDeclaredMethods()) {
            same("method " + m.getName(), Modifier.isPublic(m.getModifiers()) || Modifier.isPrivate(m.getModifiers()) && !names.contains(m.getName()));
        }
        same("twelve classes at most", SpeedDesk.class.getDeclaredClasses().length <= 11);
        for (Class<?> inside : SpeedDesk.class.getDeclaredClasses()) {
            same("class " + inside.getName(), Modifier.isStatic(inside.getModifiers()) && !Modifier.isPublic(inside.getModifiers()));
            int fields = 0;
            for (Field f : inside.getDeclaredFields()) {
                fields += Modifier.isStatic(f.getModifiers()) ? 0 : 1;
            }
            same("fields of " + inside.getName(), fields <= 20);
            for (Method m : inside.getDeclaredMethods()) {
                same("name " + m.getName(), !names.contains(m.getName()));
            }
        }
    }

    private static void source() throws IOException {
        String source = Files.readString(Path.of("src/main/java/SpeedDesk.java"));
        same("bytes of 1 to 127", source.chars().allMatch(c -> c >= 1 && c <= 127));
        String code = source.replaceAll("(?s)/\\*.*?\\*/", "").replaceAll("//[^\n]*", "").replaceAll("\"[^\"\n]*\"", "\"\"");
        for (String pattern : NOT_ALLOWED) {
            same("no " + pattern, !Pattern.compile(pattern).matcher(code).find());
        }
        Matcher imports = Pattern.compile("import [^;]*;").matcher(code);
        while (imports.find()) {
            same(imports.group(), imports.group().equals("import java.util.NoSuchElementException;"));
        }
        methodsAreShort(source.split("\n"));
    }

    /** A method's head stands 4 or 8 blanks in and ends with an opening brace; so does its closing one. */
    private static void methodsAreShort(String[] lines) {
        Pattern head = Pattern.compile("^( {4}| {8})(?=\\S)(?!return|if|for|while|switch|else|}).*\\(([^()]*)\\)( throws \\w+)? \\{$");
        for (int i = 0; i < lines.length; i++) {
            Matcher m = head.matcher(lines[i]);
            if (m.matches()) {
                int end = i;
                while (end < lines.length && !lines[end].equals(m.group(1) + "}")) {
                    end++;
                }
                same("length of " + lines[i].trim(), end - i < 60);
                same("parameters of " + lines[i].trim(), m.group(2).split(",").length <= 7);
            }
        }
    }
}
