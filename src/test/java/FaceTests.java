import java.io.IOException;
import java.lang.reflect.Constructor;
import java.lang.reflect.Field;
import java.lang.reflect.Method;
import java.lang.reflect.Modifier;
import java.nio.charset.StandardCharsets;
import java.nio.file.Files;
import java.nio.file.Paths;
import java.util.ArrayList;
import java.util.Arrays;
import java.util.HashSet;
import java.util.List;
import java.util.Set;
import java.util.TreeSet;
import java.util.regex.Matcher;
import java.util.regex.Pattern;

/** The public face, and the rules of ../shared/LANGUAGE.md that can be seen from the class and its text. */
public final class FaceTests {
    private static final String[] FACE = {
        "int ahead(int,int,int) throws IndexOutOfBoundsException,IllegalArgumentException,NoSuchElementException",
        "int alike()", "int ask() throws IllegalArgumentException", "boolean back()",
        "int bell(int) throws IndexOutOfBoundsException",
        "int change(int,int) throws IndexOutOfBoundsException,IllegalArgumentException",
        "boolean chapter(int)", "int choir()",
        "int cloister() throws IllegalArgumentException,UnsupportedOperationException", "int content()",
        "int count(int)", "int cross(int) throws IndexOutOfBoundsException,IllegalStateException", "int elder()",
        "int empty()", "boolean end(int)", "int far(int,int) throws IndexOutOfBoundsException", "int fault()",
        "int feed(int,int,int,int,int)", "int feeds(int) throws IndexOutOfBoundsException",
        "int fill(int,int) throws IndexOutOfBoundsException,IllegalArgumentException",
        "int find(int) throws IndexOutOfBoundsException,IllegalStateException", "int gone()",
        "int hours(int) throws IllegalArgumentException", "int humour()", "int hungriest()", "void image()",
        "int lates(int) throws IllegalArgumentException", "int law() throws IllegalArgumentException",
        "int led(int,boolean) throws IndexOutOfBoundsException", "int log(int,int) throws NoSuchElementException",
        "int meet(int,int) throws IndexOutOfBoundsException,IllegalArgumentException",
        "int monk(int,int) throws IndexOutOfBoundsException,NoSuchElementException",
        "int mood(int) throws IllegalArgumentException", "int odds(int,int) throws IllegalArgumentException",
        "int pace(int,int) throws IndexOutOfBoundsException,IllegalArgumentException",
        "int pairs(int) throws IndexOutOfBoundsException", "int rests(int) throws IndexOutOfBoundsException",
        "int ring()", "int road(int,boolean) throws IndexOutOfBoundsException,IllegalArgumentException",
        "int round(int) throws IllegalArgumentException", "int rule(boolean) throws IllegalArgumentException",
        "int season(int) throws IndexOutOfBoundsException", "int seats(int) throws IndexOutOfBoundsException",
        "int seed(int)", "int seen(boolean) throws IllegalArgumentException",
        "int serves(int) throws IndexOutOfBoundsException",
        "int share(int,int) throws IndexOutOfBoundsException,IllegalArgumentException", "int shown()",
        "int span(int,boolean) throws IllegalArgumentException", "int starves()",
        "int store(int) throws IndexOutOfBoundsException", "int swings(int) throws IndexOutOfBoundsException",
        "int tardy()", "int tells() throws IllegalArgumentException", "int throng()",
        "int trade(int,boolean) throws IndexOutOfBoundsException",
        "int trial(int,boolean) throws IllegalArgumentException", "boolean undo()", "int watch()",
        "int when(int,int) throws IndexOutOfBoundsException",
    };
    private static final String[] FORBIDDEN = {"->", "::", "\\bcatch\\b", "\\btry\\b", "\\bfinally\\b",
        "\\bsynchronized\\b", "\\bassert\\b", "static\\s*\\{", "@", "\\bprotected\\b", "\\bvolatile\\b", "\\binstanceof\\b",
        "\\bfloat\\b", "\\bdouble\\b", "MAX_VALUE", "MIN_VALUE", "\\bSystem\\b", "\\bThread\\b", "Exact\\b", "\\brecord\\b",
        "\\bequals\\b", "\\bhashCode\\b", "\\btoString\\b", "\\[\\]\\[\\]", "\\bpackage\\b", "\\bvar\\b", "\"\\s*\\+",
        "\\+\\s*\"", "\\bwhile \\(true\\)", "for \\(;;\\)", "\\bInteger\\.(?!bitCount\\b)",
        "\\bMath\\.(?!(floorMod|max|min)\\b)"};

    private static final Due due = new Due("face and language");

    private FaceTests() {
    }

    public static void main(String[] args) throws IOException {
        String text = new String(Files.readAllBytes(Paths.get(args[0])), StandardCharsets.ISO_8859_1);
        face();
        List<Class<?>> all = new ArrayList<>(Arrays.asList(SeasonWalks.class.getDeclaredClasses()));
        for (Class<?> inside : all) {
            int flags = inside.getModifiers();
            due.is(inside + " is static", Modifier.isStatic(flags), true);
            due.is(inside + " is hidden", Modifier.isPublic(flags) || Modifier.isProtected(flags), false);
        }
        all.add(SeasonWalks.class);
        due.is("some twelve classes", all.size() <= 12, true);
        for (Class<?> one : all) {
            members(one);
        }
        text(text);
        methodsAreShort(text);
        due.close();
    }

    private static void face() {
        Set<String> want = new TreeSet<>(Arrays.asList(FACE));
        Set<String> got = new TreeSet<>();
        for (Method method : SeasonWalks.class.getDeclaredMethods()) {
            if (!Modifier.isPrivate(method.getModifiers())) {
                got.add(told(method));
                due.is(method + " is public", Modifier.isPublic(method.getModifiers()), true);
            }
        }
        due.is("the face", got, want);
        due.is("public and final", SeasonWalks.class.getModifiers(), Modifier.PUBLIC | Modifier.FINAL);
        due.is("no package", SeasonWalks.class.getName(), "SeasonWalks");
        Constructor<?>[] makers = SeasonWalks.class.getDeclaredConstructors();
        due.is("one constructor", makers.length == 1 && makers[0].getParameterCount() == 0
                && Modifier.isPublic(makers[0].getModifiers()), true);
        for (Field field : SeasonWalks.class.getDeclaredFields()) {
            due.is(field + " is hidden", Modifier.isPrivate(field.getModifiers()), !field.getName().equals("NONE"));
        }
    }

    private static String told(Method method) {
        StringBuilder all = new StringBuilder(method.getReturnType().toString()).append(' ').append(method.getName());
        all.append(names(method.getParameterTypes(), "(")).append(method.getParameterCount() == 0 ? "()" : ")");
        return all.append(names(method.getExceptionTypes(), " throws ")).toString();
    }

    private static String names(Class<?>[] types, String ahead) {
        StringBuilder all = new StringBuilder();
        for (Class<?> type : types) {
            all.append(all.length() == 0 ? ahead : ",").append(type.getSimpleName());
        }
        return all.toString();
    }

    private static void members(Class<?> one) {
        Set<String> faceNames = new HashSet<>();
        for (String member : FACE) {
            faceNames.add(member.replaceAll("^\\w+ (\\w+)\\(.*", "$1"));
        }
        for (Method method : one.getDeclaredMethods()) {
            boolean hidden = one != SeasonWalks.class || Modifier.isPrivate(method.getModifiers());
            due.is(method + " bears no name of the face", hidden && faceNames.contains(method.getName()), false);
            due.is(method + " takes seven at most", method.getParameterCount() <= 7, true);
        }
        int fields = 0;
        for (Field field : one.getDeclaredFields()) {
            if (Modifier.isStatic(field.getModifiers())) {
                due.is(field + " is a constant", Modifier.isFinal(field.getModifiers()) && field.getType().isPrimitive(),
                        true);
            } else {
                fields++;
            }
        }
        due.is(one + " has some twenty fields", fields <= 20, true);
    }

    private static void text(String text) {
        due.is("signs are 1 to 127", text.chars().allMatch(sign -> sign > 0 && sign < 128), true);
        String code = text.replaceAll("(?s)/\\*.*?\\*/", "").replaceAll("//[^\n]*", "");
        for (String forbidden : FORBIDDEN) {
            Matcher found = Pattern.compile(forbidden).matcher(code);
            due.is("no " + forbidden, found.find(), false);
        }
        Matcher imported = Pattern.compile("import ([^;]*);").matcher(code);
        while (imported.find()) {
            due.is("import", imported.group(1), "java.util.NoSuchElementException");
        }
        Matcher thrown = Pattern.compile("throw (?!new (IllegalStateException|IllegalArgumentException|"
                + "IndexOutOfBoundsException|UnsupportedOperationException|NoSuchElementException)\\(\\);)").matcher(code);
        due.is("throws as rule 6 says", thrown.find(), false);
    }

    private static void methodsAreShort(String text) {
        String[] lines = text.split("\n");
        int begin = -1;
        for (int i = 0; i < lines.length; i++) {
            if (lines[i].matches("( {4}| {8})(public|private)[^=;]*\\(.*\\{")) {
                begin = i;
            }
            if (lines[i].matches("( {4}| {8})\\}") && begin >= 0) {
                due.is("sixty lines from " + (begin + 1), i - begin <= 60, true);
                begin = -1;
            }
        }
    }
}
