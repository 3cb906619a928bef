import java.lang.management.ManagementFactory;
import java.lang.reflect.Constructor;
import java.lang.reflect.Field;
import java.lang.reflect.Method;
import java.lang.reflect.Modifier;
import java.nio.file.Files;
import java.nio.file.Path;
import java.util.List;
import java.util.Set;
import java.util.TreeSet;
import java.util.regex.Pattern;

/** The face, what LANGUAGE.md forbids as far as words tell it, and how much room a run takes. */
public final class LanguageTests {
    private static final Due due = new Due();
    private static final Set<String> FACE = new TreeSet<>(List.of(
        "int hand(int)", "int coin(int,int)", "boolean rules(int,int)", "int later(int)", "int feed(int,int,int,int,int)",
        "int end(int)", "int text()", "int fault(int)", "boolean by(int)", "int gives(int,int)", "int pay(int,int)",
        "int wash(int)", "int played(int)", "int undo()", "int of(int,int)", "long rows(int,int,int,int)",
        "int row(int,int,int,int,int)", "int among(int,int,int,int,boolean)", "int purse(int,int)",
        "long odds(int,int,int,int)", "int told(int,int)", "int chosen(int,int,int)", "boolean tray(int,int)",
        "int sorted(int,int)", "int read(int,int)", "int market(int,int)", "int image()", "int back()", "int about(int)"));

    public static void main(String[] args) throws Exception {
        face();
        classesInside();
        words();
        room();
        due.end();
    }

    private static void face() {
        Class<?> c = HeavierByHand.class;
        due.is("public and final", Modifier.isFinal(c.getModifiers()) && Modifier.isPublic(c.getModifiers()), true);
        Set<String> found = new TreeSet<>();
        for (Method m : c.getDeclaredMethods()) {
            if (!Modifier.isPrivate(m.getModifiers()) && !m.isSynthetic()) {
                StringBuilder b = new StringBuilder(m.getReturnType() + " " + m.getName() + "(");
                for (Class<?> p : m.getParameterTypes()) {
                    b.append(b.charAt(b.length() - 1) == '(' ? "" : ",").append(p);
                }
                found.add(b + ")");
            }
        }
        due.is("the face's methods " + found, found.equals(FACE), true);
        for (Field f : c.getDeclaredFields()) {
            boolean none = f.getName().equals("NONE");
            due.is("field " + f.getName(), Modifier.isPrivate(f.getModifiers()), !none);
            due.is("static field " + f.getName(), !Modifier.isStatic(f.getModifiers()) || Modifier.isFinal(f.getModifiers()), true);
        }
        Constructor<?>[] all = c.getDeclaredConstructors();
        due.is("constructors", all.length, 1);
        due.is("constructor's parameters", all[0].getParameterCount(), 0);
    }

    private static void classesInside() {
        Set<String> names = new TreeSet<>();
        for (String f : FACE) {
            names.add(f.substring(f.indexOf(' ') + 1, f.indexOf('(')));
        }
        Class<?>[] inside = HeavierByHand.class.getDeclaredClasses();
        due.is("twelve classes at most", inside.length + 1 <= 12, true);
        for (Class<?> c : inside) {
            due.is(c + " is static", Modifier.isStatic(c.getModifiers()), true);
            int fields = 0;
            for (Field f : c.getDeclaredFields()) {
                fields += Modifier.isStatic(f.getModifiers()) ? 0 : 1;
            }
            due.is(c + " has twenty fields at most", fields <= 20, true);
            for (Method m : c.getDeclaredMethods()) {
                due.is(m + " bears no name of the face", names.contains(m.getName()), false);
                due.is(m + " takes seven at most", m.getParameterCount() <= 7, true);
            }
        }
        for (Method m : HeavierByHand.class.getDeclaredMethods()) {
            due.is(m + " of its own name", Modifier.isPrivate(m.getModifiers()) && names.contains(m.getName()), false);
        }
    }

    private static void words() throws Exception {
        String all = Files.readString(Path.of("src/main/java/HeavierByHand.java"));
        String code = all.replaceAll("(?s)/\\*.*?\\*/", " ").replaceAll("//[^\n]*", " ")
            .replaceAll("\"[^\"]*\"", "\"\"").replaceAll("'[^']'", "' '");
        for (String word : List.of("throw", "throws", "try", "catch", "finally", "synchronized", "assert", "package",
            "import", "var", "Object", "Exception", "double", "float", "native", "volatile", "hashCode", "toString")) {
            due.is("the word " + word, Pattern.compile("\\b" + word + "\\b").matcher(code).find(), false);
        }
        due.is("a lambda", code.contains("->"), false);
        due.is("a method reference", code.contains("::"), false);
        due.is("a name that ends in Exact", Pattern.compile("\\w+Exact\\b").matcher(code).find(), false);
        due.is("signs of 1 to 127", all.chars().allMatch(c -> c > 0 && c < 128), true);
        lengths(all.split("\n"));
    }

    /** A method stands between a line that ends in ") {" and the first "}" with as many blanks ahead of it. */
    private static void lengths(String[] lines) {
        for (int from = 0; from < lines.length; from++) {
            String line = lines[from];
            String blanks = line.substring(0, line.length() - line.stripLeading().length());
            if (line.endsWith(") {") && (blanks.length() == 4 || blanks.length() == 8)) {
                int to = from;
                while (to < lines.length && !lines[to].equals(blanks + "}")) {
                    to++;
                }
                due.is("sixty lines at most: " + line, to - from <= 60, true);
            }
        }
    }

    /** All that 512 dear calls make, the object itself with them, in bytes: a small part of the room. */
    private static void room() {
        com.sun.management.ThreadMXBean bean = (com.sun.management.ThreadMXBean) ManagementFactory.getThreadMXBean();
        run();
        long before = bean.getCurrentThreadAllocatedBytes();
        run();
        long used = bean.getCurrentThreadAllocatedBytes() - before;
        due.is("bytes of a run: " + used, used < 1000000, true);
    }

    private static void run() {
        HeavierByHand x = new HeavierByHand();
        for (int i = 0; i < 10; i++) {
            x.hand(1 + 3 * i);
        }
        for (int i = 0; i < 20; i++) {
            x.coin(i * 20, i % 10);
            x.tray(i, i % 6);
        }
        x.rules(0, 9);
        Due.tell(x, "glove hand + 1 > 9; grain weight * 2 / (times + 1); pay 0 to 1; pay 0 to 2; wash 3;");
        x.by(0);
        x.image();
        for (int i = 0; i < 40; i++) {
            x.back();
            x.rows(0, 150 + i, 0, 12);
            x.row(0, 150 + i, 0, 12, 3);
            x.among(0, 150 + i, 0, 12, true);
            x.purse(i % 10, 30 + i);
            x.odds(i % 10, 0, 4, 0);
            x.told(0, 4);
            x.chosen(5, 3, 2);
            x.sorted(6, 3);
            x.market(i, 99);
            x.played(0);
            x.of(0, 5);
        }
    }
}
