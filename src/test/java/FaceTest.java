import java.io.IOException;
import java.lang.reflect.Constructor;
import java.lang.reflect.Field;
import java.lang.reflect.Method;
import java.lang.reflect.Modifier;
import java.nio.file.Files;
import java.nio.file.Path;
import java.util.ArrayList;
import java.util.List;
import java.util.Set;
import java.util.TreeSet;
import java.util.regex.Matcher;
import java.util.regex.Pattern;

/** The public face, and of LANGUAGE.md what can be seen from outside or from the source's words. */
public final class FaceTest {
    private static final String FACE = "int feed 5,boolean end 1,int lowland 0,int fault 1,int has 1,int letter 3,int hollow 2,"
            + "int lake 2,int owner 2,int owes 2,int later 2,int broke 1,int spend 2,int price 3,int moves 0,int pack 2,"
            + "int net 1,int settling 0,int share 3,int stood 0,int robbed 1,int nights 1,int chance 1,boolean move 2,"
            + "int pour 2,int part 2,int pay 3,int strike 0,boolean undo 0,boolean seed 1,int kept 2,int image 0,"
            + "int octet 1,boolean on 0,int status 1";

    public static void main(String[] args) throws IOException {
        constants();
        face();
        nested();
        source(Files.readString(Path.of("src/main/java/LakeMarket.java")));
        Check.finish();
    }

    private static void constants() {
        Check.due("NONE", LakeMarket.NONE, -1);
        Check.due("NOTHING", LakeMarket.NOTHING, -1000000000);
    }

    private static void face() {
        Set<String> want = new TreeSet<>(List.of(FACE.split(",")));
        Set<String> got = new TreeSet<>();
        Set<String> names = new TreeSet<>();
        for (Method m : LakeMarket.class.getDeclaredMethods()) {
            if (Modifier.isPublic(m.getModifiers())) {
                got.add(m.getReturnType() + " " + m.getName() + " " + m.getParameterCount());
                names.add(m.getName());
                Check.no(m + " is static", Modifier.isStatic(m.getModifiers()));
                for (Class<?> type : m.getParameterTypes()) {
                    Check.yes(m + " takes ints", type == int.class);
                }
            }
        }
        Check.yes("the face is " + got, got.equals(want));
        Check.yes("final", Modifier.isFinal(LakeMarket.class.getModifiers()));
        Constructor<?>[] made = LakeMarket.class.getDeclaredConstructors();
        Check.yes("one constructor", made.length == 1 && made[0].getParameterCount() == 0
                && Modifier.isPublic(made[0].getModifiers()));
        for (Method m : LakeMarket.class.getDeclaredMethods()) {
            boolean isPrivate = Modifier.isPrivate(m.getModifiers());
            Check.yes(m + " is public or private", isPrivate || Modifier.isPublic(m.getModifiers()));
            Check.no(m + " bears a public name", isPrivate && names.contains(m.getName()));
        }
        for (Field f : LakeMarket.class.getDeclaredFields()) {
            boolean told = f.getName().equals("NONE") || f.getName().equals("NOTHING");
            Check.yes(f + " is private", Modifier.isPrivate(f.getModifiers()) != told);
        }
        for (Class<?> c : LakeMarket.class.getDeclaredClasses()) {
            for (Method m : c.getDeclaredMethods()) {
                Check.no(m + " bears a public name", names.contains(m.getName()));
            }
        }
    }

    private static void nested() {
        List<Class<?>> all = new ArrayList<>(List.of(LakeMarket.class.getDeclaredClasses()));
        for (Class<?> c : all) {
            Check.yes(c + " is static", Modifier.isStatic(c.getModifiers()));
            Check.no(c + " is public", Modifier.isPublic(c.getModifiers()) || Modifier.isProtected(c.getModifiers()));
        }
        all.add(LakeMarket.class);
        Check.yes("some twelve classes", all.size() <= 12);
        for (Class<?> c : all) {
            int fields = 0;
            for (Field f : c.getDeclaredFields()) {
                if (Modifier.isStatic(f.getModifiers())) {
                    Check.yes(f + " is final", Modifier.isFinal(f.getModifiers()));
                } else {
                    fields++;
                }
            }
            Check.yes(c + " has some twenty fields", fields <= 20);
            for (Method m : c.getDeclaredMethods()) {
                Check.yes(m + " takes seven at most", m.getParameterCount() <= 7);
            }
        }
    }

    private static void source(String text) {
        String code = text.replaceAll("(?s)/\\*.*?\\*/", "").replaceAll("//[^\n]*", "")
                .replaceAll("\"[^\"\n]*\"", "TEXT").replaceAll("'[^'\n]*'", "SIGN");
        String[] words = {"throw", "throws", "try", "catch", "finally", "synchronized", "assert", "package", "native", "volatile",
            "transient", "Object", "Random", "Thread", "double", "float", "yield", "var", "instanceof"};
        for (String word : words) {
            Check.no("the source says " + word, Pattern.compile("\\b" + word + "\\b").matcher(code).find());
        }
        String[] signs = {"->", "::", "Exact(", "\"", "@"};
        for (String sign : signs) {
            Check.no("the source says " + sign, code.contains(sign));
        }
        Matcher imports = Pattern.compile("import ([^;]*);").matcher(code);
        while (imports.find()) {
            Check.yes("import of " + imports.group(1), imports.group(1).equals("java.util.Arrays"));
        }
        Matcher library = Pattern.compile("\\b(System|Math|Arrays|Integer|Long)\\.(\\w+)").matcher(code);
        Set<String> listed = Set.of("System.arraycopy", "Math.max", "Math.min", "Math.abs", "Math.floorDiv", "Math.floorMod",
                "Arrays.fill", "Integer.bitCount");
        while (library.find()) {
            Check.yes("the library's " + library.group(), listed.contains(library.group()));
        }
        for (char c : text.toCharArray()) {
            if (c != '\n' && (c < 32 || c > 126)) {
                Check.yes("a sign " + (int) c, false);
            }
        }
        lengths(text);
    }

    /** A method goes from its head, at one depth, to the bracket that closes it there. */
    private static void lengths(String text) {
        String[] lines = text.split("\n");
        for (int i = 0; i < lines.length; i++) {
            Matcher head = Pattern.compile("^( {4}| {8})(?=\\S)(?!.*\\bclass\\b).*\\).*\\{$").matcher(lines[i]);
            if (head.find()) {
                int end = i;
                while (end < lines.length && !lines[end].equals(head.group(1) + "}")) {
                    end++;
                }
                Check.yes("long method at line " + (i + 1), end - i < 60);
            }
        }
    }
}
