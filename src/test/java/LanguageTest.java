import java.io.IOException;
import java.lang.reflect.Field;
import java.lang.reflect.Method;
import java.lang.reflect.Modifier;
import java.nio.charset.StandardCharsets;
import java.nio.file.Files;
import java.nio.file.Path;
import java.util.ArrayList;
import java.util.List;
import java.util.Set;
import java.util.TreeSet;
import java.util.regex.Matcher;
import java.util.regex.Pattern;

/** The face of the document, and those rules of LANGUAGE.md that can be seen from outside. */
public final class LanguageTest {
    private static final String[] FORBIDDEN = {"->", "::", "\\bcatch\\b", "\\bfinally\\b", "\\bsynchronized\\b",
        "\\bassert\\b", "\\bdouble\\b", "\\bfloat\\b", "\\bpackage\\b", "System\\.(?!arraycopy)", "\\bRandom\\b",
        "\\bThread\\b", "\\w+Exact\\(", "static \\{", "\\bString\\b", "\\bhashCode\\b", "\\btoString\\b"};
    private static final String FACE = "feed(5) text(1) fault(1) player(3) on(2) lineUp(2) point(1) sub(3) move(2)"
            + " stand(4) standing(3) wrong(2) undo(0) now(1) chance(0) chanceAt(3) value(0) valueAt(5) table(2)"
            + " safe(2) saddle(0) reply(2) worth(1) ifSub(3) bestSub(2) bestMove(2) likely(2) ends(2) length(0)"
            + " streak(2) weak(2) ifSwapped(3) strength(2) together(4) strong(2) maySub(3) mayMove(2) subsNow(1)"
            + " bestSwap(2) ranked(2) named(2) run(1) was(2) till(3) count(1)";

    private static final Check CHECK = new Check();

    public static void main(String[] args) throws IOException {
        face();
        source(Files.readString(Path.of("src/main/java/CourtSix.java"), StandardCharsets.ISO_8859_1));
        CHECK.end();
    }

    private static void face() {
        Class<CourtSix> face = CourtSix.class;
        CHECK.due("rule 1: public and final", Modifier.isPublic(face.getModifiers())
                && Modifier.isFinal(face.getModifiers()), true);
        CHECK.due("rule 1: constructors", face.getDeclaredConstructors().length, 1);
        CHECK.due("NONE", CourtSix.NONE, -1);
        Set<String> open = new TreeSet<>();
        Set<String> closed = new TreeSet<>();
        for (Method method : face.getDeclaredMethods()) {
            boolean isPublic = Modifier.isPublic(method.getModifiers());
            boolean isPrivate = Modifier.isPrivate(method.getModifiers());
            CHECK.due("rule 1: " + method.getName() + " is public or private", isPublic || isPrivate, true);
            (isPublic ? open : closed).add(isPublic ? method.getName() + "(" + method.getParameterCount() + ")"
                    : method.getName());
            CHECK.due("rule 11: parameters of " + method.getName(), method.getParameterCount() <= 7, true);
        }
        CHECK.same("the face", open, new TreeSet<>(List.of(FACE.split(" "))));
        for (String name : open) {
            CHECK.due("rule 1: " + name, closed.contains(name.substring(0, name.indexOf('('))), false);
        }
        int fields = 0;
        for (Field field : face.getDeclaredFields()) {
            boolean isNone = field.getName().equals("NONE");
            CHECK.due("rule 1: field " + field.getName(), isNone || Modifier.isPrivate(field.getModifiers()), true);
            fields += Modifier.isStatic(field.getModifiers()) ? 0 : 1;
        }
        CHECK.due("rule 11: fields", fields <= 20, true);
        for (Class<?> inside : face.getDeclaredClasses()) {
            CHECK.due("rule 1: " + inside, Modifier.isStatic(inside.getModifiers())
                    && Modifier.isPrivate(inside.getModifiers()), true);
        }
        CHECK.due("rule 11: classes", face.getDeclaredClasses().length < 12, true);
    }

    private static void source(String text) {
        String code = text.replaceAll("(?s)/\\*.*?\\*/", "").replaceAll("//[^\n]*", "")
                .replaceAll("\"[^\"\n]*\"", "\"\"");
        for (String word : FORBIDDEN) {
            Matcher matcher = Pattern.compile(word).matcher(code);
            CHECK.due("no " + word, matcher.find(), false);
        }
        CHECK.due("only signs 1 .. 127", text.chars().allMatch(c -> c > 0 && c < 128), true);
        methodLengths(code);
    }

    private static void methodLengths(String code) {
        List<String> lines = new ArrayList<>(List.of(code.split("\n")));
        Pattern head = Pattern.compile("^( {4}| {8})(?! )(?!.*\\bclass\\b)[^=;]*\\(.*\\{$");
        for (int k = 0; k < lines.size(); k++) {
            Matcher matcher = head.matcher(lines.get(k));
            if (matcher.find()) {
                int end = k;
                while (end < lines.size() && !lines.get(end).equals(matcher.group(1) + "}")) {
                    end++;
                }
                CHECK.due("rule 11: lines of " + lines.get(k).trim(), end - k <= 60, true);
            }
        }
    }
}
