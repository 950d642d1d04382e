import java.lang.reflect.Constructor;
import java.lang.reflect.Field;
import java.lang.reflect.Method;
import java.lang.reflect.Modifier;
import java.nio.file.Files;
import java.nio.file.Path;
import java.util.HashSet;
import java.util.Set;
import java.util.TreeSet;
import java.util.regex.Matcher;
import java.util.regex.Pattern;

/** The public face is the document's and no more; and the rules of LANGUAGE.md that a scan can see. */
public final class FaceAndRules {
    private static final String[] FACE = {
        "int citizen(int,int)", "boolean there(int,boolean)", "boolean kin(int,int)",
        "boolean says(int,int,boolean)", "boolean turn(int,int,int)", "int feed(int,int,int,int,int)",
        "int end(int)", "int procedure()", "int lot(int)", "int step()", "boolean protest(int)", "int body(int)",
        "int ballot(int)", "int elected()", "int chances()", "long ways(int)", "int about(int,int)", "int count(int)"};
    private static int wrong = 0;

    public static void main(String[] args) throws Exception {
        face();
        nestedClasses();
        if (args.length < 1) {
            tell("the path of the source is not given");
        } else {
            scan(Files.readString(Path.of(args[0])));
        }
        System.out.println(wrong == 0 ? "face and rules are kept" : wrong + " breaches");
        if (wrong != 0) {
            System.exit(1);
        }
    }

    private static void tell(String what) {
        wrong++;
        System.out.println(what);
    }

    private static void face() {
        Class<?> c = ElectionHouse.class;
        if (c.getModifiers() != (Modifier.PUBLIC | Modifier.FINAL)) {
            tell("the class is not public and final");
        }
        Set<String> due = new TreeSet<>(Set.of(FACE));
        Set<String> got = new TreeSet<>();
        for (Method m : c.getDeclaredMethods()) {
            if (Modifier.isPrivate(m.getModifiers())) {
                continue;
            }
            if (!Modifier.isPublic(m.getModifiers()) || Modifier.isStatic(m.getModifiers())) {
                tell("not of the face: " + m);
            }
            StringBuilder s = new StringBuilder(m.getReturnType() + " " + m.getName() + "(");
            for (Class<?> p : m.getParameterTypes()) {
                s.append(s.charAt(s.length() - 1) == '(' ? "" : ",").append(p);
            }
            got.add(s.append(")").toString());
        }
        if (!got.equals(due)) {
            tell("the face is " + got + ", due is " + due);
        }
        for (Field f : c.getDeclaredFields()) {
            boolean isNone = f.getName().equals("NONE") && Modifier.isPublic(f.getModifiers());
            if (!isNone && !Modifier.isPrivate(f.getModifiers())) {
                tell("not private: " + f);
            }
        }
        Constructor<?>[] made = c.getDeclaredConstructors();
        if (made.length != 1 || made[0].getParameterCount() != 0 || !Modifier.isPublic(made[0].getModifiers())) {
            tell("not the one constructor");
        }
    }

    private static void nestedClasses() {
        Set<String> face = new HashSet<>();
        for (Method m : ElectionHouse.class.getMethods()) {
            face.add(m.getName());
        }
        Class<?>[] inside = ElectionHouse.class.getDeclaredClasses();
        if (inside.length + 1 > 12) {
            tell("more than twelve classes");
        }
        for (Class<?> c : inside) {
            if (!Modifier.isStatic(c.getModifiers())) {
                tell("not static: " + c);
            }
            int fields = 0;
            for (Field f : c.getDeclaredFields()) {
                boolean isStatic = Modifier.isStatic(f.getModifiers());
                fields += isStatic ? 0 : 1;
                if (isStatic && !Modifier.isFinal(f.getModifiers())) {
                    tell("static and not final: " + f);
                }
            }
            if (fields > 20) {
                tell("more than twenty fields: " + c);
            }
            for (Method m : c.getDeclaredMethods()) {
                if (face.contains(m.getName()) || m.getParameterCount() > 7) {
                    tell("a name of the face, or too many parameters: " + m);
                }
            }
        }
    }

    private static void scan(String source) {
        String code = source.replaceAll("(?s)/\\*.*?\\*/", "").replaceAll("//[^\n]*", "").replaceAll("\"[^\"\n]*\"", "\"\"");
        String banned = "\\b(throw|throws|try|catch|synchronized|assert|package|protected|native|volatile|System\\."
                + "(?!arraycopy)\\w+|Thread|Random|Object|hashCode|toString|\\w+Exact|record|enum|lambda)\\b|->|::";
        Matcher m = Pattern.compile(banned).matcher(code);
        while (m.find()) {
            tell("not of the language: " + m.group());
        }
        Matcher imports = Pattern.compile("import ([^;]+);").matcher(code);
        while (imports.find()) {
            if (!imports.group(1).equals("java.util.Arrays")) {
                tell("import of " + imports.group(1));
            }
        }
        // What a call makes is counted: rows are made as the object is made, and never behind that.
        Matcher made = Pattern.compile("(?m)^.*\\bnew\\b.*$").matcher(code);
        while (made.find()) {
            if (!made.group().matches("\\s+(private (final )?)?[\\w\\[\\]]*( \\w+)? = new .*")) {
                tell("made outside a field or a constructor: " + made.group().trim());
            }
        }
    }
}
